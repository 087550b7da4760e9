-- THE REFERENCE'S ARCS: behind, rest, through
def q_bhv (g : z_St) (m w t k v : Nat) : Option Int := e_add (e_add (q_bh g m v (t + 1 + k)) (q_tab g v t ((t + 1 + k : Nat) : Int))) (some (q_dear g w v))
def q_bhk (g : z_St) (m w t k : Nat) : Option Int := e_mins (q_bhv g m w t k) (g 168 18).toNat
theorem q_bh_s {g : z_St} {m w t : Nat} : q_bh g (m + 1) w t = e_mins (q_bhk g m w t) ((g 168 2).toNat - t) := rfl
theorem q_bhv_bd {g : z_St} (hB : q_RB g) {m w t k v : Nat} (hm : m ≤ 3) (hw : w < g 168 18) (hv : v < g 168 18) (hk : (t : Int) + 1 + k ≤ g 168 2) : e_bd 10000000000000 (q_bhv g m w t k v) := by
  have hw1 := hB.2.2.2.2.1.1
  exact e_bd_le (by omega) (e_bd_add (e_bd_add (q_bh_bd hB (m := m) (w := v) (t := t + 1 + k) (by omega) (by omega)) (q_tab_bd hB (by omega))) (e_bd_some (q_dear_w hB hw hv).1))
def q_bhOK (g : z_St) (D : Nat → Nat → Nat → Prop) (st : z_St) : Prop := ∀ m t v : Nat, m < 4 → t ≤ g 168 2 → v < g 168 18 → D m t v → st 196 (85 * (m : Int) + 5 * t + v) = e_I 1000000000000000000 (q_bh g m v t)
theorem s_behind_19 {g st : z_St} (hS : q_same g st) (hB : q_RB g) (hT : q_tabOK g (fun _ _ => True) st) {m t w : Nat} (hm : m < 4) (ht : t ≤ g 168 2) (hw : w < g 168 18) (h : q_bhOK g (fun m' _ _ => m' < m) st) :
    J_X12_laysBehind_b19 (m : Int) t w st = some (.inl ((w : Int) + 1, z_up st 196 (85 * (m : Int) + 5 * t + w) (e_I 1000000000000000000 (q_bh g m w t)))) := by
  have hw1 := hB.2.2.2.2.1.1
  have hf1 := hB.1.1
  have e18 := hS.2 18 (by decide) (by decide)
  have e2 := hS.2 2 (by decide) (by decide)
  have hbh := e_bd_le (C := 10000000000000) (by omega) (q_bh_bd hB (m := m) hw ht)
  have hbI := e_I_le (K := 1000000000000000000) hbh (by decide) (by decide)
  have hdw := q_dear_w hB hw hw
  have w165 : J_X12_laysBehind_165 (m : Int) t w (e_I 1000000000000000000 (q_bh g m w t)) (85 * (m : Int) + 5 * t + w) st = some (.inl ((w : Int) + 1, z_up st 196 (85 * (m : Int) + 5 * t + w) (e_I 1000000000000000000 (q_bh g m w t)))) := by
    refine q_of ?_
    simp only [J_X12_laysBehind_165, q_g, q_b, q_let, q_ite, q_some, z32, z64, true_or, or_true, true_and, and_true]
    omega
  have w51 : ∀ s0 : Int, q_ok (z_iter z_F (fun q9 : (Int × Int) => J_X12_laysBehind_b58 (m : Int) t w q9.1 q9.2 st) (s0, (t : Int) + 1)) (fun v => v = e_I 1000000000000000000 (q_bh g m w t)) → q_ok (J_X12_laysBehind_51 (m : Int) t w s0 st) (fun v => v = .inl ((w : Int) + 1, z_up st 196 (85 * (m : Int) + 5 * t + w) (e_I 1000000000000000000 (q_bh g m w t)))) := by
    intro s0 hs
    simp only [J_X12_laysBehind_51, q_g, q_b, q_let, q_ite, q_some, z32, z64, true_or, or_true, true_and, and_true]
    refine q_mono hs ?_
    rintro r rfl
    refine q_eq s_X12_row5 ?_
    refine ⟨by omega, fun hlt => q_eq w165 rfl, fun hge => ?_⟩
    have h9 : e_I 1000000000000000000 (q_bh g m w t) = 1000000000000000000 := by omega
    rw [h9] at w165 ⊢
    exact q_eq w165 rfl
  refine q_of ?_
  simp only [J_X12_laysBehind_b19, J_X12_laysBehind_48, q_g, q_b, q_let, q_ite, q_some, z32, z64, true_or, or_true, true_and, and_true]
  rw [e18, e2]
  refine ⟨by omega, fun _ => ⟨by omega, fun h1 => ⟨by omega, fun h2 => ?_, fun h2 => ?_⟩, fun h1 => ?_⟩, fun h9 => absurd (show (w : Int) < g 168 18 by omega) h9⟩
  · have m0 : m = 0 := by omega
    subst m0
    refine q_eq (s_X12_dear hS hB.2.2.2.2.2.2 hB.2.2.2.2.2.1 (by omega)) ?_
    refine w51 _ (q_eq (q_fold (fun _ => q_dear g w 5) ((t : Int) + 1) 0 (by decide) (fun k hk => by omega) ?_) ?_)
    · refine q_of ?_
      simp only [J_X12_laysBehind_b58, q_g, q_b, q_let, q_ite, q_some, z32, z64, true_or, or_true, true_and, and_true]
      rw [e2]
      exact ⟨by omega, fun _ => trivial, fun h9 => by omega⟩
    · unfold q_bh; rw [if_pos h2]; rfl
  · have m0 : m = 0 := by omega
    subst m0
    refine w51 _ (q_eq (q_fold (fun _ => 1000000000000000000) ((t : Int) + 1) 0 (by decide) (fun k hk => by omega) ?_) ?_)
    · refine q_of ?_
      simp only [J_X12_laysBehind_b58, q_g, q_b, q_let, q_ite, q_some, z32, z64, true_or, or_true, true_and, and_true]
      rw [e2]
      exact ⟨by omega, fun _ => trivial, fun h9 => ⟨by omega, fun h8 => absurd h8 (by decide), fun _ => trivial⟩⟩
    · unfold q_bh; rw [if_neg h2]; rfl
  · cases m with
    | zero => exact absurd rfl h1
    | succ m =>
      refine w51 _ ?_
      rw [q_bh_s]
      refine q_eq (q_mins none (q_bhk g m w t) ((t : Int) + 1) ((g 168 2).toNat - t) (by omega) (fun k hk => ?_) (fun x => ?_)) rfl
      · refine q_of ?_
        simp only [J_X12_laysBehind_b58, q_g, q_b, q_let, q_ite, q_some, z32, z64, true_or, or_true, true_and, and_true]
        rw [e2]
        refine ⟨by omega, fun h9 => by omega, fun _ => ⟨by omega, fun _ => ?_, fun h9 => by omega⟩⟩
        refine q_eq (q_mins0 _ (q_bhv g m w t k) (g 168 18).toNat (by omega) (fun v hv => ?_) (fun x => ?_)) rfl
        · refine q_of ?_
          simp only [J_X12_laysBehind_b74, q_g, q_b, q_let, q_ite, q_some, z32, z64, true_or, or_true, true_and, and_true]
          rw [e18]
          refine ⟨by omega, fun _ => ?_, fun h9 => by omega⟩
          refine q_eq s_X12_row5 ?_
          refine ⟨by omega, ?_⟩
          refine q_eq (s_X12_tableOf (by omega)) ?_
          refine q_eq (s_X12_dear hS hB.2.2.2.2.2.2 hB.2.2.2.2.2.1 (by omega)) ?_
          have e3 := (hT v t ((t + 1 + k : Nat) : Int) (by omega) (by omega) (by omega) (by omega) (by omega) trivial).1
          have e4 := h m (t + 1 + k) v (by omega) (by omega) (by omega) (by omega)
          have hv1 := e_bd_le (C := 4000000000000) (by omega) (q_bh_bd hB (m := m) (w := v) (t := t + 1 + k) (by omega) (by omega))
          have hv2 : e_bd 600000010000 (q_tab g v t ((t + 1 + k : Nat) : Int)) := q_tab_bd hB (by omega)
          have hv3 := q_dear_w hB hw (w := v) (by omega)
          have hv3 := q_dear_w hB (v := w) (w := v) hw (by omega)
          have hv4 : e_bd 10000000000000 (e_min (e_min none (e_mins (q_bhk g m w t) k)) (e_mins (q_bhv g m w t k) v)) := e_bd_min (e_bd_mins fun i hi => e_bd_mins fun u hu => q_bhv_bd hB (by omega) hw (by omega) (by omega)) (e_bd_mins fun u hu => q_bhv_bd hB (by omega) hw (by omega) (by omega))
          have c1 := e_I_le (K := 1000000000000000000) hv1 (by decide) (by decide)
          have c2 := e_I_le (K := 1000000000000000000) hv2 (by decide) (by decide)
          have c4 := e_I_le (K := 1000000000000000000) hv4 (by decide) (by decide)
          rw [show 85 * (((m + 1 : Nat) : Int) - 1) + 5 * ((t : Int) + 1 + k) + v = 85 * (m : Int) + 5 * ((t + 1 + k : Nat) : Int) + v by omega, e4, show 289 * (v : Int) + 17 * (t : Int) + ((t : Int) + 1 + k) = 289 * v + 17 * (t : Int) + ((t + 1 + k : Nat) : Int) by omega, e3]
          refine q_eq (s_least (by omega)) ?_
          rw [e_acc3 hv4 hv1 hv2 hv3.1 (by decide) (by decide) (by decide) (by decide) (by decide)]
          rfl
        · refine q_of ?_
          simp only [J_X12_laysBehind_b74, q_g, q_b, q_let, q_ite, q_some, z32, z64, true_or, or_true, true_and, and_true]
          rw [e18]
          exact ⟨by omega, fun h9 => by omega, fun _ => trivial⟩
      · refine q_of ?_
        simp only [J_X12_laysBehind_b58, q_g, q_b, q_let, q_ite, q_some, z32, z64, true_or, or_true, true_and, and_true]
        rw [e2]
        exact ⟨by omega, fun _ => trivial, fun h9 => by omega⟩
theorem s_X12_laysBehind {g st0 : z_St} (hS : q_same g st0) (hB : q_RB g) (hT : q_tabOK g (fun _ _ => True) st0) : q_ok (J_X12_laysBehind st0) (fun st => (∀ x, x ≠ 196 → st x = st0 x) ∧ q_bhOK g (fun _ _ _ => True) st) := by
  have hw1 := hB.2.2.2.2.1.1
  have hf1 := hB.1.1
  simp only [J_X12_laysBehind, q_g, q_b, q_let, q_ite, q_some, z32, z64, true_or, or_true, true_and, and_true]
  refine q_for0 (fun o st => (∀ x, x ≠ 196 → st x = st0 x) ∧ q_bhOK g (fun o' _ _ => o' < o) st) 4 (by decide) ⟨fun _ _ => rfl, fun o t w _ _ _ h => by omega⟩ ?_ ?_
  · rintro o st ho ⟨i1, i2⟩
    simp only [J_X12_laysBehind_b2, q_g, q_b, q_let, q_ite, q_some, z32, z64, true_or, or_true, true_and, and_true]
    refine ⟨by omega, fun h9 => by omega, fun _ => ?_⟩
    refine q_mono (P := fun st1 => (∀ x, x ≠ 196 → st1 x = st0 x) ∧ q_bhOK g (fun o' _ _ => o' < o + 1) st1) ?_ (fun st1 h1 => ⟨_, rfl, h1⟩)
    refine q_for0 (fun t st => (∀ x, x ≠ 196 → st x = st0 x) ∧ q_bhOK g (fun o' t' _ => o' < o ∨ (o' = o ∧ t' < t)) st) ((g 168 2).toNat + 1) (by omega) ⟨i1, fun o' t w a b c d => i2 o' t w a b c (by omega)⟩ ?_ ?_
    · rintro t st ht ⟨i1, i2⟩
      have hS1 : q_same g st := q_same_of hS (fun x a b => i1 x (by omega))
      simp only [J_X12_laysBehind_b9, q_g, q_b, q_let, q_ite, q_some, z32, z64, true_or, or_true, true_and, and_true]
      rw [hS1.2 2 (by decide) (by decide)]
      refine ⟨by omega, fun h9 => by omega, fun _ => ?_⟩
      refine q_mono (P := fun st1 => (∀ x, x ≠ 196 → st1 x = st0 x) ∧ q_bhOK g (fun o' t' _ => o' < o ∨ (o' = o ∧ t' < t + 1)) st1) ?_ (fun st1 h1 => ⟨_, rfl, h1⟩)
      refine q_for0 (fun w st => (∀ x, x ≠ 196 → st x = st0 x) ∧ q_bhOK g (fun o' t' w' => o' < o ∨ (o' = o ∧ (t' < t ∨ (t' = t ∧ w' < w)))) st) (g 168 18).toNat (by omega) ⟨i1, fun o' t w a b c d => i2 o' t w a b c (by omega)⟩ ?_ ?_
      · rintro w st hw ⟨i1, i2⟩
        have hS1 : q_same g st := q_same_of hS (fun x a b => i1 x (by omega))
        have key := s_behind_19 hS1 hB (q_tabOK_of hT (i1 183 (by decide)) (i1 184 (by decide))) (m := o) (t := t) (w := w) ho (by omega) (by omega) (fun o' t' w' a b c d => i2 o' t' w' a b c (Or.inl d))
        refine q_eq key ⟨_, rfl, fun x hx => (q_up_row hx).trans (i1 x hx), fun o' t' w' a b c d => ?_⟩
        rw [q_up_at]
        by_cases e : o' = o ∧ t' = t ∧ w' = w
        · obtain ⟨rfl, rfl, rfl⟩ := e
          rw [if_pos rfl]
        · rw [if_neg (by omega)]
          exact i2 o' t' w' a b c (by omega)
      · rintro st ⟨i1, i2⟩
        have hS1 : q_same g st := q_same_of hS (fun x a b => i1 x (by omega))
        simp only [J_X12_laysBehind_b19, q_g, q_b, q_let, q_ite, q_some, z32, z64, true_or, or_true, true_and, and_true]
        rw [hS1.2 18 (by decide) (by decide)]
        refine ⟨by omega, fun h9 => by omega, fun _ => ⟨_, rfl, i1, fun o' t' w' a b c d => i2 o' t' w' a b c (by omega)⟩⟩
    · rintro st ⟨i1, i2⟩
      have hS1 : q_same g st := q_same_of hS (fun x a b => i1 x (by omega))
      simp only [J_X12_laysBehind_b9, q_g, q_b, q_let, q_ite, q_some, z32, z64, true_or, or_true, true_and, and_true]
      rw [hS1.2 2 (by decide) (by decide)]
      refine ⟨by omega, fun _ => ⟨_, rfl, i1, fun o' t' w' a b c d => i2 o' t' w' a b c (by omega)⟩, fun h9 => by omega⟩
  · rintro st ⟨i1, i2⟩
    simp only [J_X12_laysBehind_b2, q_g, q_b, q_let, q_ite, q_some, z32, z64, true_or, or_true, true_and, and_true]
    refine ⟨by decide, fun _ => ⟨_, rfl, i1, fun o' t' w' a b c d => i2 o' t' w' a b c (by omega)⟩, fun h9 => absurd (by decide) h9⟩
theorem s_X12_rest {g st : z_St} (hB : q_RB g) (h : q_bhOK g (fun _ _ _ => True) st) {w t o : Nat} (hw : w < g 168 18) (ht : t ≤ g 168 2) (ho : o ≤ 3) : J_X12_rest w t o st = some (e_I 1000000000000000000 (q_tr g o w t)) := by
  have hw1 := hB.2.2.2.2.1.1
  have hf1 := hB.1.1
  refine q_of ?_
  simp only [J_X12_rest, q_g, q_b, q_let, q_ite, q_some, z32, z64, true_or, or_true, true_and, and_true]
  refine q_eq (q_mins0 none (fun m => q_bh g m w t) (o + 1) (by omega) (fun m hm => ?_) (fun x => ?_)) rfl
  · refine q_of ?_
    simp only [J_X12_rest_b8, q_g, q_b, q_let, q_ite, q_some, z32, z64, true_or, or_true, true_and, and_true]
    refine ⟨by omega, fun h9 => by omega, fun _ => ?_⟩
    refine q_eq s_X12_row5 ?_
    refine ⟨by omega, ?_⟩
    rw [h m t w (by omega) ht hw trivial]
    have b1 := e_bd_le (C := 10000000000000) (by omega) (q_bh_bd hB (m := m) hw ht)
    have b2 : e_bd 10000000000000 (e_min none (e_mins (fun m => q_bh g m w t) m)) := e_bd_mins fun i hi => e_bd_le (by omega) (q_bh_bd hB hw ht)
    have c1 := e_I_le (K := 1000000000000000000) b1 (by decide) (by decide)
    have c2 := e_I_le (K := 1000000000000000000) b2 (by decide) (by decide)
    refine q_eq (s_least (by omega)) ?_
    rw [e_min_N b2 b1 (by decide)]
  · refine q_of ?_
    simp only [J_X12_rest_b8, q_g, q_b, q_let, q_ite, q_some, z32, z64, true_or, or_true, true_and, and_true]
    exact ⟨by omega, fun _ => trivial, fun h9 => by omega⟩
