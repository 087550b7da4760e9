-- THE REFERENCE'S laysRest, laysSounds
theorem q_Rr_bd2 {g : z_St} (hB : q_RB g) {d : Int → Int} {m : Nat} (hm : m ≤ 4) (hd : ∀ j : Int, 0 ≤ j → j < m → 0 ≤ d j ∧ d j < g 168 18) {r t : Nat} (hr : r ≤ m) (ht : t ≤ g 168 2) : e_bd 2800000000000 (q_Rr g d m r t) := e_bd_le (by omega) (q_Rr_bd hB hd hr ht)
theorem s_rest_8 {g st : z_St} (hS : q_same g st) (hB : q_RB g) (hT : q_tabOK g (fun _ _ => True) st) {d : Int → Int} {m : Nat} (hm : m ≤ 4) (hd : ∀ j : Int, 0 ≤ j → j < m → (0 ≤ d j ∧ d j < g 168 18) ∧ st 186 j = d j) {r t : Nat} (hr : r ≤ m) (ht : t ≤ g 168 2)
    (h0 : ∀ t' : Nat, 1 ≤ r → t' ≤ g 168 2 → st 188 (17 * (((m - r : Nat) : Int) + 1) + t') = e_I 1000000000000000000 (q_Rr g d m (r - 1) t')) :
    J_X12_laysRest_b8 (m : Int) ((m - r : Nat) : Int) t st = some (.inl ((t : Int) + 1, z_up st 188 (17 * ((m - r : Nat) : Int) + t) (e_I 1000000000000000000 (q_Rr g d m r t)))) := by
  have hw1 := hB.2.2.2.2.1.1
  have hf1 := hB.1.1
  have e2 := hS.2 2 (by decide) (by decide)
  have hd1 : ∀ j : Int, 0 ≤ j → j < m → 0 ≤ d j ∧ d j < g 168 18 := fun j a b => (hd j a b).1
  have hRb := q_Rr_bd2 hB hm hd1 hr ht
  have hRI := e_I_le (K := 1000000000000000000) hRb (by decide) (by decide)
  have w152 : J_X12_laysRest_152 (m : Int) ((m - r : Nat) : Int) t (e_I 1000000000000000000 (q_Rr g d m r t)) (17 * ((m - r : Nat) : Int) + t) st = some (.inl ((t : Int) + 1, z_up st 188 (17 * ((m - r : Nat) : Int) + t) (e_I 1000000000000000000 (q_Rr g d m r t)))) := by
    refine q_of ?_
    simp only [J_X12_laysRest_152, q_g, q_b, q_let, q_ite, q_some, z32, z64, true_or, or_true, true_and, and_true]
    omega
  have w36 : ∀ s0 : Int, q_ok (z_iter z_F (fun q9 : (Int × Int) => J_X12_laysRest_b43 (m : Int) ((m - r : Nat) : Int) t q9.1 q9.2 st) (s0, (t : Int) + 1)) (fun v => v = e_I 1000000000000000000 (q_Rr g d m r t)) → q_ok (J_X12_laysRest_36 (m : Int) ((m - r : Nat) : Int) t s0 st) (fun v => v = .inl ((t : Int) + 1, z_up st 188 (17 * ((m - r : Nat) : Int) + t) (e_I 1000000000000000000 (q_Rr g d m r t)))) := by
    intro s0 hs
    simp only [J_X12_laysRest_36, q_g, q_b, q_let, q_ite, q_some, z32, z64, true_or, or_true, true_and, and_true]
    refine q_mono hs ?_
    rintro _ rfl
    refine ⟨by omega, fun hlt => q_eq w152 rfl, fun hge => ?_⟩
    have h9 : e_I 1000000000000000000 (q_Rr g d m r t) = 1000000000000000000 := by omega
    rw [h9] at w152 ⊢
    exact q_eq w152 rfl
  refine q_of ?_
  simp only [J_X12_laysRest_b8, J_X12_laysRest_33, q_g, q_b, q_let, q_ite, q_some, z32, z64, true_or, or_true, true_and, and_true]
  rw [e2]
  cases r with
  | zero =>
    have hex : ∀ s0 : Int, z_iter z_F (fun q9 : (Int × Int) => J_X12_laysRest_b43 (m : Int) ((m - 0 : Nat) : Int) t q9.1 q9.2 st) (s0, (t : Int) + 1) = some s0 := fun s0 => by
      refine q_fold (fun _ => s0) ((t : Int) + 1) 0 (by decide) (fun k hk => by omega) ?_
      refine q_of ?_
      simp only [J_X12_laysRest_b43, q_g, q_b, q_let, q_ite, q_some, z32, z64, true_or, or_true, true_and, and_true]
      rw [e2]
      exact ⟨by omega, fun _ => trivial, fun _ => ⟨by omega, fun h9 => by omega, fun _ => trivial⟩⟩
    refine ⟨by omega, fun h9 => by omega, fun _ => ⟨by omega, fun _ => ⟨by omega, fun h1 => w36 0 (q_eq (hex 0) (by unfold q_Rr; rw [if_pos h1]; rfl)), fun h1 => w36 _ (q_eq (hex _) (by unfold q_Rr; rw [if_neg h1]; rfl))⟩, fun h9 => by omega⟩⟩
  | succ r =>
    refine ⟨by omega, fun h9 => by omega, fun _ => ⟨by omega, fun h9 => by omega, fun _ => w36 _ ?_⟩⟩
    have hdk := hd ((m : Int) - (r + 1)) (by omega) (by omega)
    have hk : ((m - (r + 1) : Nat) : Int) = (m : Int) - (r + 1) := by omega
    refine q_eq (q_mins none (fun i => e_add (q_Rr g d m r (t + 1 + i)) (q_tab g (d ((m : Int) - (r + 1))) t ((t + 1 + i : Nat) : Int))) ((t : Int) + 1) ((g 168 2).toNat - t) (by omega) (fun i hi => ?_) (fun x => ?_)) rfl
    · refine q_of ?_
      simp only [J_X12_laysRest_b43, J_X12_laysRest_117, q_g, q_b, q_let, q_ite, q_some, z32, z64, true_or, or_true, true_and, and_true]
      rw [e2]
      have e1 := h0 (t + 1 + i) (by omega) (by omega)
      rw [show r + 1 - 1 = r by omega] at e1
      have b1 := q_Rr_bd2 hB hm hd1 (r := r) (t := t + 1 + i) (by omega) (by omega)
      have b2 : e_bd 600000010000 (q_tab g (d ((m : Int) - (r + 1))) t ((t + 1 + i : Nat) : Int)) := q_tab_bd hB (by omega)
      have b3 : e_bd 10000000000000 (e_min none (e_mins (fun i => e_add (q_Rr g d m r (t + 1 + i)) (q_tab g (d ((m : Int) - (r + 1))) t ((t + 1 + i : Nat) : Int))) i)) := e_bd_mins fun j hj => e_bd_le (by decide) (e_bd_add (q_Rr_bd2 hB hm hd1 (r := r) (t := t + 1 + j) (by omega) (by omega)) (q_tab_bd hB (t := ((t + 1 + j : Nat) : Int)) (by omega)))
      have c1 := e_I_le (K := 1000000000000000000) b1 (by decide) (by decide)
      have c2 := e_I_le (K := 1000000000000000000) b2 (by decide) (by decide)
      have c3 := e_I_le (K := 1000000000000000000) b3 (by decide) (by decide)
      have e3 := (hT (d ((m : Int) - (r + 1))) t ((t + 1 + i : Nat) : Int) (by omega) (by omega) (by omega) (by omega) (by omega) trivial).1
      have hacc := e_acc b3 b1 b2 (K := 1000000000000000000) (by decide) (by decide) (by decide) (by decide) (by decide)
      rw [show (t : Int) + 1 + i = ((t + 1 + i : Nat) : Int) by omega, e1, hk, hdk.2]
      refine ⟨by omega, fun h9 => by omega, fun _ => ⟨by omega, fun _ => ⟨by omega, by omega, fun hlt => ⟨by omega, by omega, ?_⟩, fun hge => ?_⟩, fun h9 => by omega⟩⟩
      · refine q_eq (s_X12_tableOf (by omega)) ?_
        rw [e3]
        refine q_eq (s_least (by omega)) ?_
        rw [hacc]
      · have hn : q_Rr g d m r (t + 1 + i) = none := by
          apply Classical.byContradiction
          intro h9; exact hge (c1.2.2.mpr h9)
        have : e_add (q_Rr g d m r (t + 1 + i)) (q_tab g (d ((m : Int) - (r + 1))) t ((t + 1 + i : Nat) : Int)) = none := by rw [hn]; rfl
        rw [this, e_min_none]
    · refine q_of ?_
      simp only [J_X12_laysRest_b43, q_g, q_b, q_let, q_ite, q_some, z32, z64, true_or, or_true, true_and, and_true]
      rw [e2]
      exact ⟨by omega, fun _ => trivial, fun h9 => by omega⟩
theorem s_X12_laysRest {g st0 : z_St} (hS : q_same g st0) (hB : q_RB g) (hT : q_tabOK g (fun _ _ => True) st0) {d : Int → Int} {m : Nat} (hm : m ≤ 4) (hd : ∀ j : Int, 0 ≤ j → j < m → (0 ≤ d j ∧ d j < g 168 18) ∧ st0 186 j = d j) :
    q_ok (J_X12_laysRest m st0) (fun st => (∀ x, x ≠ 188 → st x = st0 x) ∧ ∀ k t : Nat, k ≤ m → t ≤ g 168 2 → st 188 (17 * (k : Int) + t) = e_I 1000000000000000000 (q_Rr g d m (m - k) t)) := by
  have hf1 := hB.1.1
  simp only [J_X12_laysRest, q_g, q_b, q_let, q_ite, q_some, z32, z64, true_or, or_true, true_and, and_true]
  refine q_ford (fun r st => (∀ x, x ≠ 188 → st x = st0 x) ∧ ∀ k t : Nat, m < k + r → k ≤ m → t ≤ g 168 2 → st 188 (17 * (k : Int) + t) = e_I 1000000000000000000 (q_Rr g d m (m - k) t)) (m : Int) (m + 1) (by omega) ⟨fun _ _ => rfl, fun k t a b => by omega⟩ ?_ ?_
  · rintro r st hr ⟨i1, i2⟩
    simp only [J_X12_laysRest_b2, q_g, q_b, q_let, q_ite, q_some, z32, z64, true_or, or_true, true_and, and_true]
    refine ⟨by omega, fun h9 => by omega, fun _ => ?_⟩
    refine q_mono (P := fun st1 => (∀ x, x ≠ 188 → st1 x = st0 x) ∧ ∀ k t : Nat, m < k + (r + 1) → k ≤ m → t ≤ g 168 2 → st1 188 (17 * (k : Int) + t) = e_I 1000000000000000000 (q_Rr g d m (m - k) t)) ?_ (fun st1 h1 => ⟨_, rfl, h1⟩)
    refine q_for0 (fun t st => (∀ x, x ≠ 188 → st x = st0 x) ∧ ∀ k t' : Nat, (m < k + r ∨ (k = m - r ∧ t' < t)) → k ≤ m → t' ≤ g 168 2 → st 188 (17 * (k : Int) + t') = e_I 1000000000000000000 (q_Rr g d m (m - k) t')) ((g 168 2).toNat + 1) (by omega) ⟨i1, fun k t a b c => i2 k t (by omega) b c⟩ ?_ ?_
    · rintro t st ht ⟨k1, k2⟩
      have hS1 : q_same g st := q_same_of hS (fun x a b => k1 x (by omega))
      have hT1 : q_tabOK g (fun _ _ => True) st := q_tabOK_of hT (k1 183 (by decide)) (k1 184 (by decide))
      have key := s_rest_8 hS1 hB hT1 hm (d := d) (fun j a b => by rw [k1 186 (by decide)]; exact hd j a b) (r := r) (t := t) (by omega) (by omega) (fun t' h1 h2 => by
        have := k2 (m - r + 1) t' (by omega) (by omega) h2
        rw [show m - (m - r + 1) = r - 1 by omega] at this
        rw [← this]; congr 2)
      rw [show (m : Int) - r = ((m - r : Nat) : Int) by omega]
      refine q_eq key ⟨_, rfl, fun x hx => (q_up_row hx).trans (k1 x hx), fun k t' a b c => ?_⟩
      rw [q_up_at]
      by_cases e : k = m - r ∧ t' = t
      · obtain ⟨rfl, rfl⟩ := e
        rw [if_pos rfl, show m - (m - r) = r by omega]
      · rw [if_neg (by omega)]
        exact k2 k t' (by omega) b c
    · rintro st ⟨k1, k2⟩
      simp only [J_X12_laysRest_b8, q_g, q_b, q_let, q_ite, q_some, z32, z64, true_or, or_true, true_and, and_true]
      rw [k1 168 (by decide), hS.2 2 (by decide) (by decide)]
      exact ⟨by omega, fun _ => ⟨_, rfl, k1, fun k t a b c => k2 k t (by omega) b c⟩, fun h9 => by omega⟩
  · rintro st ⟨i1, i2⟩
    simp only [J_X12_laysRest_b2, q_g, q_b, q_let, q_ite, q_some, z32, z64, true_or, or_true, true_and, and_true]
    exact ⟨by omega, fun _ => ⟨_, rfl, i1, fun k t a b => i2 k t (by omega) a b⟩, fun h9 => by omega⟩
theorem s_sounds_29 {g st : z_St} (hS : q_same g st) (hB : q_RB g) {v1 v2 v3 : Int} {sa : Int} {f t r e : Nat} (hsa : q_said g sa) (hft : f ≤ t ∧ t ≤ g 168 2) (hr : r ≤ g 179 sa) (he : e ≤ t - f)
    (h0 : ∀ r' e' : Nat, 1 ≤ r → 1 ≤ e → (r' = r ∨ r' = r - 1) → e' = e - 1 → st 185 (17 * (g 179 sa - r') + (t - e')) = e_I 1000000000000000000 (q_Tl g sa t r' e')) :
    J_X12_laysSounds_b29 v1 v2 v3 f t sa (g 179 sa) (g 179 sa - r) ((t : Int) - e) st = some (.inl ((t : Int) - e + -1, z_up st 185 (17 * (g 179 sa - r) + (t - e)) (e_I 1000000000000000000 (q_Tl g sa t r e)))) := by
  have hf1 := hB.1.1
  have hs1 := hsa.1
  have hs2 := hsa.2.1
  have w157 : J_X12_laysSounds_157 v1 v2 v3 f t sa (g 179 sa) (g 179 sa - r) ((t : Int) - e) (e_I 1000000000000000000 (q_Tl g sa t r e)) st = some (.inl ((t : Int) - e + -1, z_up st 185 (17 * (g 179 sa - r) + (t - e)) (e_I 1000000000000000000 (q_Tl g sa t r e)))) := by
    refine q_of ?_
    simp only [J_X12_laysSounds_157, q_g, q_b, q_let, q_ite, q_some, z32, z64, true_or, or_true, true_and, and_true]
    omega
  refine q_of ?_
  simp only [J_X12_laysSounds_b29, J_X12_laysSounds_54, J_X12_laysSounds_57, J_X12_laysSounds_155, q_g, q_b, q_let, q_ite, q_some, z32, z64, true_or, or_true, true_and, and_true]
  cases r with
  | zero =>
    cases e with
    | zero =>
      have hv : q_Tl g sa t 0 0 = some 0 := by unfold q_Tl q_G; rfl
      rw [hv] at w157 ⊢
      refine ⟨by omega, fun h9 => by omega, fun _ => ⟨by omega, fun _ => ⟨by omega, fun _ => ⟨by omega, fun h9 => by omega, fun _ => q_eq w157 rfl⟩, fun h9 => by omega⟩, fun h9 => by omega⟩⟩
    | succ e =>
      have hv : q_Tl g sa t 0 (e + 1) = none := by unfold q_Tl; rw [q_G_1]
      rw [hv] at w157 ⊢
      refine ⟨by omega, fun h9 => by omega, fun _ => ⟨by omega, fun _ => ⟨by omega, fun h9 => by omega, fun _ => ⟨by omega, fun h9 => by omega, fun _ => q_eq w157 rfl⟩⟩, fun h9 => by omega⟩⟩
  | succ r =>
    cases e with
    | zero =>
      have hv : q_Tl g sa t (r + 1) 0 = none := by unfold q_Tl; rw [q_G_0]
      rw [hv] at w157 ⊢
      refine ⟨by omega, fun h9 => by omega, fun _ => ⟨by omega, fun h9 => by omega, fun _ => ⟨by omega, fun _ => ⟨by omega, fun h9 => by omega, fun _ => q_eq w157 rfl⟩, fun h9 => by omega⟩⟩⟩
    | succ e =>
      have e1 := h0 (r + 1) e (by omega) (by omega) (Or.inl rfl) (by omega)
      have e2 := h0 r e (by omega) (by omega) (Or.inr (by omega)) (by omega)
      have b1 := q_Tl_bd hB hsa (t := t) (r := r + 1) (e := e) (by omega)
      have b2 := q_Tl_bd hB hsa (t := t) (r := r) (e := e) (by omega)
      have b3 := e_bd_min b1 b2
      have c1 := e_I_le (K := 1000000000000000000) b1 (by decide) (by decide)
      have c2 := e_I_le (K := 1000000000000000000) b2 (by decide) (by decide)
      have c3 := e_I_le (K := 1000000000000000000) b3 (by decide) (by decide)
      have hcb := q_cb_bd hB hsa (t := t) (r := r) (e := e) (by omega)
      have hadd := e_addc_N (K := 1000000000000000000) (c := q_cb g sa t r e) b3 (by decide)
      rw [← q_Tl_s] at hadd
      have hsd := hsa.2.2 (g 179 sa - 1 - r) (by omega) (by omega)
      have hc := hB.2.2.1.1
      have ha := hB.2.2.1.2.2.2.1 (g 180 (4 * sa + (g 179 sa - 1 - r))) (by omega) (by omega)
      have hfb := q_form_bd (g := g) (sa := sa) (p := g 179 sa - 1 - r) ha.1
      rw [show 17 * (g 179 sa - ((r + 1 : Nat) : Int)) + (t - ((e + 1 : Nat) : Int)) + 1 = 17 * (g 179 sa - ((r + 1 : Nat) : Int)) + (t - e) by omega, e1, show 17 * (g 179 sa - ((r + 1 : Nat) : Int) + 1) + (t - ((e + 1 : Nat) : Int)) + 1 = 17 * (g 179 sa - r) + (t - e) by omega, e2]
      refine ⟨by omega, fun h9 => by omega, fun _ => ⟨by omega, fun h9 => by omega, fun _ => ⟨by omega, fun _ => ⟨by omega, fun _ => ⟨by omega, by omega, ?_⟩, fun h9 => by omega⟩, fun h9 => by omega⟩⟩⟩
      refine q_eq (s_least (by omega)) ?_
      rw [e_min_N b1 b2 (by decide)]
      refine ⟨by omega, fun hlt => ⟨by omega, ?_⟩, fun hge => ?_⟩
      · rw [show g 179 sa - ((r + 1 : Nat) : Int) = g 179 sa - 1 - r by omega] at w157 ⊢
        refine q_eq (s_X12_formOf hS hB.2.2.1 hB.2.2.2.2.1 (sa := sa) (p := g 179 sa - 1 - r) (by omega)) ?_
        rw [hS.1 180 (by decide) (by decide)]
        refine q_eq (s_X12_costOf hS hB.1 hB.2.1 hB.2.2.1 (f := (t : Int) - ((e + 1 : Nat) : Int)) (s := g 180 (4 * sa + (g 179 sa - 1 - r))) (form := q_form g sa (g 179 sa - 1 - r)) (by omega)) ?_
        have hcbe : q_cost g ((t : Int) - ((e + 1 : Nat) : Int)) (g 180 (4 * sa + (g 179 sa - 1 - r))) (q_form g sa (g 179 sa - 1 - r)) = q_cb g sa t r e := by
          unfold q_cb
          rw [show (t : Int) - ((e + 1 : Nat) : Int) = t - 1 - e by omega]
        rw [hcbe]
        rw [if_pos hlt] at hadd
        rw [hadd] at w157 ⊢
        exact q_eq w157 rfl
      · rw [if_neg hge] at hadd
        rw [hadd] at w157 ⊢
        exact q_eq w157 rfl
