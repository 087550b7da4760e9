-- THE REFERENCE'S found
def q_found (g : z_St) (beam most what : Int) : Int := if what = 2 then q_dr g beam most (g 168 2).toNat else match q_fin g beam most with
  | none => -1
  | some (x, n) => if what = 0 then n else x
theorem q_dr_bd {g : z_St} {beam most : Int} : ∀ T : Nat, 0 ≤ q_dr g beam most T ∧ q_dr g beam most T ≤ 20 * (T : Int) := by
  intro T
  induction T with
  | zero => exact ⟨Int.le_refl _, by show (0 : Int) ≤ 20 * ((0 : Nat) : Int); decide⟩
  | succ T ih =>
    have h : q_nd beam most (q_Et g beam most T) ≤ 20 := e_cnt_le 20
    show 0 ≤ q_dr g beam most T + _ ∧ q_dr g beam most T + _ ≤ _
    omega
theorem q_fc_b {g : z_St} (hB : q_RB g) {H : Nat → Nat → Option (Int × Int)} (hH : q_Hb g H) {T k : Nat} (hk : k < 20) : ∀ x n, q_fc g H T k = some (x, n) → 0 ≤ x ∧ x ≤ 10000000000000 ∧ 1 ≤ n ∧ n ≤ 100000 := by
  intro x n h
  have hw1 := hB.2.2.2.2.1.1
  unfold q_fc at h
  cases hHk : H T k with
  | none => rw [hHk] at h; cases h
  | some p =>
    obtain ⟨y, m⟩ := p
    rw [hHk] at h
    have h2 := Prod.mk.inj (Option.some.inj h)
    have h3 := q_ob_at hk (hH T k).1 y m hHk
    have h4 := (hH T k).1 y m hHk
    have h5 : k % 5 < (g 168 18).toNat := by
      apply Classical.byContradiction
      intro h9
      have := (hH T k).2 h9
      rw [hHk] at this; cases this
    have h6 := q_dear_w hB (v := k % 5) (w := k % 5) (by omega) (by omega)
    omega
theorem q_lp_b {c : Nat → Option (Int × Int)} : ∀ {n : Nat}, (∀ i, i < n → ∀ x m, c i = some (x, m) → 0 ≤ x ∧ x ≤ 10000000000000 ∧ 1 ≤ m ∧ m ≤ 100000) → ∀ x m, q_lp c n = some (x, m) → 0 ≤ x ∧ x ≤ 10000000000000 ∧ 1 ≤ m ∧ m ≤ 100000 := by
  intro n
  induction n with
  | zero => intro _ x m h; cases h
  | succ n ih =>
    intro h x m hx
    have hx2 : q_put (q_lp c n) (c n) = some (x, m) := hx
    unfold q_put at hx2
    cases hc : c n with
    | none => rw [hc] at hx2; exact ih (fun i hi => h i (by omega)) x m hx2
    | some p =>
      obtain ⟨y, l⟩ := p
      rw [hc] at hx2
      dsimp only at hx2
      cases ho : q_lp c n with
      | none => rw [ho] at hx2; cases hx2; exact h n (by omega) _ _ hc
      | some q =>
        obtain ⟨z, r⟩ := q
        rw [ho] at hx2
        dsimp only at hx2
        split at hx2
        · cases hx2; exact h n (by omega) _ _ hc
        · cases hx2; exact ih (fun i hi => h i (by omega)) _ _ ho
theorem q_Hs_lt {g : z_St} {beam most : Int} {T s k : Nat} (h : s ≤ T) : q_Hs g beam most (T + 1) s k = q_Hs g beam most T s k := by
  show (if s = T + 1 then _ else _) = _
  rw [if_neg (by omega)]
theorem q_Hs_at {g : z_St} {beam most : Int} {T k : Nat} : q_Hs g beam most (T + 1) (T + 1) k = q_kp beam most (q_Et g beam most T) k := by
  show (if T + 1 = T + 1 then _ else _) = _
  rw [if_pos rfl]; rfl
theorem s_found_53 {g st0 : z_St} (hS : q_same g st0) (hB : q_RB g) (hT : q_tabOK g (fun _ _ => True) st0) {beam most what : Int} (hbm : 0 ≤ beam ∧ beam ≤ 9223372036854775807) (hms : 1 ≤ most ∧ most ≤ 2147483647) (h0 : st0 168 36 = 0) :
    q_ok (z_iter z_F (fun q9 : (Int × z_St) => J_X12_found_b53 beam most what q9.1 q9.2) (1, st0)) (fun st => (∀ x, x ≠ 168 → x ≠ 192 → x ≠ 193 → x ≠ 194 → st x = st0 x) ∧ (∀ j, j ≠ 36 → st 168 j = st0 168 j) ∧ st 168 36 = q_dr g beam most (g 168 2).toNat ∧ q_his g (q_Hs g beam most (g 168 2).toNat) (g 168 2).toNat st) := by
  have hw1 := hB.2.2.2.2.1.1
  have hf1 := hB.1.1
  refine q_for (fun T st => (∀ x, x ≠ 168 → x ≠ 192 → x ≠ 193 → x ≠ 194 → st x = st0 x) ∧ (∀ j, j ≠ 36 → st 168 j = st0 168 j) ∧ st 168 36 = q_dr g beam most T ∧ q_his g (q_Hs g beam most T) T st) 1 (g 168 2).toNat (by omega) ⟨fun _ _ _ _ _ => rfl, fun _ _ => rfl, h0, fun s k a b c => by omega⟩ ?_ ?_
  · rintro T st hT9 ⟨i1, i2, i3, i4⟩
    have hS1 : q_same g st := ⟨fun x a b => (i1 x (by omega) (by omega) (by omega) (by omega)).trans (hS.1 x a b), fun j a b => (i2 j (by omega)).trans (hS.2 j a b)⟩
    have hT1 : q_tabOK g (fun _ _ => True) st := q_tabOK_of hT (i1 183 (by decide) (by decide) (by decide) (by decide)) (i1 184 (by decide) (by decide) (by decide) (by decide))
    have hHb := q_Hs_b hB (beam := beam) (most := most) (T := T) (by omega)
    simp only [J_X12_found_b53, q_g, q_b, q_let, q_ite, q_some, z32, z64, true_or, or_true, true_and, and_true]
    rw [hS1.2 2 (by decide) (by decide)]
    refine ⟨by omega, fun h9 => by omega, fun _ => ?_⟩
    have key := s_X12_laysEnds hS1 hB hT1 hHb (t := T + 1) (by omega) (by omega) (by rw [show T + 1 - 1 = T by omega]; exact i4)
    rw [show ((T + 1 : Nat) : Int) = 1 + (T : Int) by omega] at key
    refine q_mono key ?_
    rintro st1 ⟨⟨a1, a2⟩, a3⟩
    have hEb : ∀ k, q_ob k (q_Et g beam most T k) := fun k => (q_E_ob hB hHb (t := T + 1) (k := k) (by omega)).1
    have key2 := s_X12_drops (st0 := st1) (t := T + 1) (by omega) hbm hms hEb (fun k hk => by
      rw [show ((T + 1 : Nat) : Int) = 1 + (T : Int) by omega]; exact a3 k hk)
    rw [show ((T + 1 : Nat) : Int) = 1 + (T : Int) by omega] at key2
    refine q_mono key2 ?_
    rintro st2 ⟨b1, b2, b3, b4, b5⟩
    refine ⟨_, rfl, fun x x1 x2 x3 x4 => by rw [b1 x x4 x1, a1 x x2 x3 x4]; exact i1 x x1 x2 x3 x4, fun j hj => by rw [b2 j hj, a1 168 (by decide) (by decide) (by decide)]; exact i2 j hj, ?_, fun s k c1 c2 c3 => ?_⟩
    · rw [b4, a1 168 (by decide) (by decide) (by decide), i3]; rfl
    · by_cases e : s = T + 1
      · subst e
        rw [q_Hs_at, show ((T + 1 : Nat) : Int) = 1 + (T : Int) by omega]
        exact b5 k c3
      · rw [q_Hs_lt (by omega)]
        exact q_rH_of3 (i4 s k c1 (by omega) c3) (by rw [b1 192 (by decide) (by decide), a2 192 _ (by omega)]) (by rw [b1 193 (by decide) (by decide), a2 193 _ (by omega)]) (by rw [b3 _ (by omega), a2 194 _ (by omega)])
  · rintro st ⟨i1, i2, i3, i4⟩
    have hS1 : q_same g st := ⟨fun x a b => (i1 x (by omega) (by omega) (by omega) (by omega)).trans (hS.1 x a b), fun j a b => (i2 j (by omega)).trans (hS.2 j a b)⟩
    simp only [J_X12_found_b53, q_g, q_b, q_let, q_ite, q_some, z32, z64, true_or, or_true, true_and, and_true]
    rw [hS1.2 2 (by decide) (by decide)]
    exact ⟨by omega, fun _ => ⟨_, rfl, i1, i2, i3, i4⟩, fun h9 => by omega⟩
/-- how the reference holds the best of the ends -/
def q_pr (o : Option (Int × Int)) : Int × Int := match o with
  | none => (1000000000000000000, -1)
  | some (x, n) => (x, n)
theorem s_found_93 {g st : z_St} (hS : q_same g st) (hB : q_RB g) {what : Int} {H : Nat → Nat → Option (Int × Int)} (hH : q_Hb g H) (hh : q_his g H (g 168 2).toNat st) (hf : 0 < g 168 2) :
    q_ok (z_iter z_F (fun q9 : (Int × Int × Int) => J_X12_found_b93 what q9.1 q9.2.1 q9.2.2 st) (1000000000000000000, (-1), 0)) (fun r => r = q_pr (q_lp (q_fc g H (g 168 2).toNat) 20)) := by
  have hw1 := hB.2.2.2.2.1.1
  have hf1 := hB.1.1
  have e2 := hS.2 2 (by decide) (by decide)
  refine q_loop (fun q => ∃ k : Nat, q.2.2 = (k : Int) ∧ k ≤ 20 ∧ (q.1, q.2.1) = q_pr (q_lp (q_fc g H (g 168 2).toNat) k)) (fun q => (21 - q.2.2).toNat) ⟨0, rfl, by omega, rfl⟩ (by show (21 - (0 : Int)).toNat < _; decide) ?_
  rintro ⟨u, v, w⟩ ⟨k, i1, i2, i3⟩
  dsimp only at i1 i3
  subst i1
  obtain ⟨i3a, i3b⟩ := Prod.mk.inj i3
  simp only [J_X12_found_b93, q_g, q_b, q_let, q_ite, q_some, z32, z64, true_or, or_true, true_and, and_true]
  rw [e2]
  have hkm : (k : Int).tmod 5 = ((k % 5 : Nat) : Int) := by rw [Int.tmod_eq_emod_of_nonneg (by omega)]; omega
  rw [hkm]
  have es : q_lp (q_fc g H (g 168 2).toNat) (k + 1) = q_put (q_lp (q_fc g H (g 168 2).toNat) k) (q_fc g H (g 168 2).toNat k) := rfl
  have nxt : ∀ a b : Int, k < 20 → (a, b) = q_pr (q_lp (q_fc g H (g 168 2).toNat) (k + 1)) → (∃ k' : Nat, (k : Int) + 1 = k' ∧ k' ≤ 20 ∧ (a, b) = q_pr (q_lp (q_fc g H (g 168 2).toNat) k')) ∧ (21 - ((k : Int) + 1)).toNat < (21 - (k : Int)).toNat := fun a b hk h => ⟨⟨k + 1, by omega, by omega, h⟩, by omega⟩
  refine ⟨by omega, fun hk => ⟨by omega, fun _ => ?_, fun h9 => absurd hf h9⟩, fun hk => ?_⟩
  · have hk20 : k < 20 := by omega
    have hhk := hh (g 168 2).toNat k (by omega) (Nat.le_refl _) hk20
    rw [show (((g 168 2).toNat : Nat) : Int) = g 168 2 by omega] at hhk
    have hlpb := q_lp_b (c := q_fc g H (g 168 2).toNat) (n := k) (fun i hi => q_fc_b hB hH (by omega))
    have hprb : (0 ≤ u ∧ u ≤ 1000000000000000000) ∧ -1 ≤ v ∧ v ≤ 100000 := by
      cases hq : q_lp (q_fc g H (g 168 2).toNat) k with
      | none => rw [hq] at i3a i3b; rw [i3a, i3b]; decide
      | some p =>
        obtain ⟨x, n⟩ := p
        have := hlpb x n hq
        rw [hq] at i3a i3b
        have e1 : u = x := i3a
        have e9 : v = n := i3b
        omega
    cases hHk : H (g 168 2).toNat k with
    | none =>
      rw [hHk] at hhk
      have z : st 194 (20 * g 168 2 + k) = 0 := hhk
      have hfc : q_fc g H (g 168 2).toNat k = none := by unfold q_fc; rw [hHk]
      rw [hfc, q_put_none] at es
      rw [z]
      refine ⟨by omega, by decide, fun _ => ?_, fun h9 => by first | exact absurd rfl h9 | exact absurd trivial h9⟩
      simp only [J_X12_found_152, J_X12_found_196, J_X12_found_197, J_X12_found_211, J_X12_found_230, q_g, q_b, q_let, q_ite, q_some, z32, z64, true_or, or_true, true_and, and_true]
      rw [z]
      exact ⟨by omega, by decide, fun _ => ⟨by decide, fun _ => ⟨by decide, fun _ => nxt u v hk20 (by rw [es]; exact i3), fun h9 => by first | exact absurd rfl h9 | exact absurd trivial h9⟩, fun h9 => by first | exact absurd rfl h9 | exact absurd trivial h9⟩, fun h9 => by first | exact absurd rfl h9 | exact absurd trivial h9⟩
    | some p =>
      obtain ⟨x, n⟩ := p
      rw [hHk] at hhk
      obtain ⟨z1, z2, z3⟩ : st 194 (20 * g 168 2 + k) = 1 ∧ st 192 (20 * g 168 2 + k) = x ∧ st 193 (20 * g 168 2 + k) = n := hhk
      have hxb := q_ob_at hk20 (hH _ k).1 x n hHk
      have h5 : k % 5 < (g 168 18).toNat := by
        apply Classical.byContradiction
        intro h9
        have := (hH (g 168 2).toNat k).2 h9
        rw [hHk] at this; cases this
      have hdw := q_dear_w hB (v := k % 5) (w := k % 5) (by omega) (by omega)
      have hfc : q_fc g H (g 168 2).toNat k = some (x + q_dear g ((k % 5 : Nat) : Int) 5, n) := by unfold q_fc; rw [hHk]
      rw [hfc] at es
      rw [z1, z2]
      refine ⟨by omega, by decide, fun h9 => absurd h9 (by decide), fun _ => ⟨by omega, by omega, ?_⟩⟩
      refine q_eq (s_X12_dear hS hB.2.2.2.2.2.2 hB.2.2.2.2.2.1 (by omega)) ?_
      obtain ⟨D, hD⟩ : ∃ D, q_dear g ((k % 5 : Nat) : Int) 5 = D := ⟨_, rfl⟩
      rw [hD] at es hdw ⊢
      simp only [J_X12_found_152, J_X12_found_196, J_X12_found_192, J_X12_found_197, J_X12_found_211, J_X12_found_230, q_g, q_b, q_let, q_ite, q_some, z32, z64, true_or, or_true, true_and, and_true]
      rw [z1, z3]
      cases hq : q_lp (q_fc g H (g 168 2).toNat) k with
      | none =>
        rw [hq] at i3a i3b es
        have e1 : u = 1000000000000000000 := i3a
        have e9 : v = -1 := i3b
        subst e1 e9
        refine ⟨by omega, by decide, fun h9 => absurd h9 (by decide), fun _ => ⟨by omega, fun _ => ⟨by decide, fun h9 => absurd h9 (by decide), fun _ => ⟨by decide, fun h9 => absurd h9 (by decide), fun _ => ⟨by omega, nxt _ _ hk20 (by rw [es]; rfl)⟩⟩⟩, fun h9 => by omega⟩⟩
      | some p =>
        obtain ⟨y, m⟩ := p
        rw [hq] at i3a i3b es
        have e1 : u = y := i3a
        have e9 : v = m := i3b
        subst e1 e9
        have es2 : q_lp (q_fc g H (g 168 2).toNat) (k + 1) = if x + D < u ∨ (x + D = u ∧ n < v) then some (x + D, n) else some (u, v) := es
        refine ⟨by omega, by decide, fun h9 => absurd h9 (by decide), fun _ => ⟨by omega, fun h1 => ⟨by decide, fun h9 => absurd h9 (by decide), fun _ => ⟨by decide, fun h9 => absurd h9 (by decide), fun _ => ⟨by omega, nxt _ _ hk20 (by rw [es2, if_pos (Or.inl h1)]; rfl)⟩⟩⟩, fun h1 => ⟨by omega, fun h2 => ⟨by omega, by omega, fun h3 => ⟨by decide, fun h9 => absurd h9 (by decide), fun _ => ⟨by decide, fun h9 => absurd h9 (by decide), fun _ => ⟨by omega, nxt _ _ hk20 (by rw [es2, if_pos (Or.inr ⟨h2, h3⟩)]; rfl)⟩⟩⟩, fun h3 => ⟨by decide, fun _ => ⟨by decide, fun _ => nxt _ _ hk20 (by rw [es2, if_neg (by omega)]; rfl), fun h9 => by first | exact absurd rfl h9 | exact absurd trivial h9⟩, fun h9 => by first | exact absurd rfl h9 | exact absurd trivial h9⟩⟩, fun h2 => ⟨by decide, fun _ => ⟨by decide, fun _ => nxt _ _ hk20 (by rw [es2, if_neg (by omega)]; rfl), fun h9 => by first | exact absurd rfl h9 | exact absurd trivial h9⟩, fun h9 => by first | exact absurd rfl h9 | exact absurd trivial h9⟩⟩⟩⟩
  · have : k = 20 := by omega
    subst this
    exact i3
theorem q_fin_b {g : z_St} (hB : q_RB g) {beam most : Int} : ∀ x n, q_fin g beam most = some (x, n) → 0 ≤ x ∧ x ≤ 10000000000000 ∧ 1 ≤ n ∧ n ≤ 100000 := by
  have hf1 := hB.1.1
  exact q_lp_b (fun i hi => q_fc_b hB (q_Hs_b hB (by omega)) hi)
theorem s_X12_found {g st0 : z_St} (hS : q_same g st0) (hB : q_RB g) {x1 x3 x4 : Int} (h1 : z64 x1) (h3 : z32 x3) (h4 : z32 x4) :
    q_ok (J_X12_found x1 x3 x4 st0) (fun r => q_K g st0 r.2 ∧ r.2 168 0 = (if 0 ≤ x1 ∧ 1 ≤ x3 ∧ 0 ≤ x4 ∧ x4 ≤ 2 then 0 else 1) ∧ (0 ≤ x1 ∧ 1 ≤ x3 ∧ 0 ≤ x4 ∧ x4 ≤ 2 → r.1 = q_found g x1 x3 x4)) := by
  have hf1 := hB.1.1
  have hb1 : -9223372036854775808 ≤ x1 ∧ x1 ≤ 9223372036854775807 := h1
  have hb3 : -2147483648 ≤ x3 ∧ x3 ≤ 2147483647 := h3
  have hb4 : -2147483648 ≤ x4 ∧ x4 ≤ 2147483647 := h4
  have bad : ¬ (0 ≤ x1 ∧ 1 ≤ x3 ∧ 0 ≤ x4 ∧ x4 ≤ 2) → q_ok (J_X12_found_31 x1 x3 x4 1 st0) (fun r => q_K g st0 r.2 ∧ r.2 168 0 = (if 0 ≤ x1 ∧ 1 ≤ x3 ∧ 0 ≤ x4 ∧ x4 ≤ 2 then 0 else 1) ∧ (0 ≤ x1 ∧ 1 ≤ x3 ∧ 0 ≤ x4 ∧ x4 ≤ 2 → r.1 = q_found g x1 x3 x4)) := by
    intro hno
    simp only [J_X12_found_31, q_g, q_b, q_let, q_ite, q_some, z32, z64, true_or, or_true, true_and, and_true]
    refine q_eq (s_holds_p (by decide)) ?_
    dsimp only
    refine ⟨by decide, fun h9 => absurd h9 (by decide), fun _ => ⟨q_K_of hS (fun x a => q_up_row (by omega)) (fun j a b => z_up_n (by omega)), by rw [if_neg hno, z_up_at], fun h9 => absurd h9 hno⟩⟩
  simp only [J_X12_found, J_X12_found_26, q_g, q_b, q_let, q_ite, q_some, z32, z64, true_or, or_true, true_and, and_true]
  refine ⟨by omega, fun k1 => bad (by omega), fun k1 => ⟨by omega, fun k2 => bad (by omega), fun k2 => ⟨h4, ?_⟩⟩⟩
  refine q_eq (s_X12_in (by omega)) ?_
  refine ⟨by unfold q_in; split <;> decide, fun h => bad (by have := q_in_0' h; omega), fun h => ?_⟩
  have k3 := q_in_n0 h
  simp only [J_X12_found_31, q_g, q_b, q_let, q_ite, q_some, z32, z64, true_or, or_true, true_and, and_true]
  refine q_eq s_holds_0 ?_
  dsimp only
  refine ⟨by decide, fun _ => ?_, fun h9 => absurd rfl h9⟩
  refine q_mono (s_X12_laysTable (q_up_0 hS) hB) ?_
  rintro st1 ⟨a1, a2⟩
  have a168 : ∀ j, j ≠ 0 → st1 168 j = st0 168 j := fun j hj => by rw [a1 168 (by decide) (by decide) (by decide), z_up_n (by omega)]
  have hS2 : q_same g (z_up st1 168 36 0) := ⟨fun x a b => by rw [q_up_row (by omega), a1 x (by omega) (by omega) (by omega), q_up_row (by omega)]; exact hS.1 x a b, fun j a b => by rw [z_up_n (by omega), a168 j (by omega)]; exact hS.2 j a b⟩
  have hT2 : q_tabOK g (fun _ _ => True) (z_up st1 168 36 0) := q_tabOK_of a2 (q_up_row (by decide)) (q_up_row (by decide))
  refine q_mono (s_found_53 hS2 hB hT2 (beam := x1) (most := x3) (what := x4) (by omega) (by omega) z_up_at) ?_
  rintro st3 ⟨b1, b2, b3, b4⟩
  have hS3 : q_same g st3 := ⟨fun x a b => (b1 x (by omega) (by omega) (by omega) (by omega)).trans (hS2.1 x a b), fun j a b => (b2 j (by omega)).trans (hS2.2 j a b)⟩
  have hHb := q_Hs_b hB (beam := x1) (most := x3) (T := (g 168 2).toNat) (by omega)
  have hK : q_K g st0 st3 := ⟨fun x hx => by rw [b1 x (by omega) (by omega) (by omega) (by omega), q_up_row (by omega), a1 x (by omega) (by omega) (by omega), q_up_row (by omega)], hS3⟩
  have h00 : st3 168 0 = 0 := by rw [b2 0 (by decide), z_up_n (by decide), a1 168 (by decide) (by decide) (by decide), z_up_at]
  have hdr := q_dr_bd (g := g) (beam := x1) (most := x3) (g 168 2).toNat
  refine q_mono (P := fun r => r = q_pr (q_fin g x1 x3)) ?_ ?_
  · by_cases hf : 0 < g 168 2
    · exact s_found_93 hS3 hB hHb b4 hf
    · have h0 : g 168 2 = 0 := by omega
      refine q_loop (fun q => q = (1000000000000000000, (-1), 0)) (fun _ => 1) rfl (by decide) ?_
      rintro _ rfl
      have e2 := hS3.2 2 (by decide) (by decide)
      simp only [J_X12_found_b93, q_g, q_b, q_let, q_ite, q_some, z32, z64, true_or, or_true, true_and, and_true]
      rw [e2]
      refine ⟨by decide, fun _ => ⟨by omega, fun h9 => absurd h9 hf, fun _ => ?_⟩, fun h9 => absurd (by decide) h9⟩
      have : q_fin g x1 x3 = none := by
        unfold q_fin
        rw [q_lp_skip (a := 0) (by decide) (fun i _ _ => by unfold q_fc; rw [h0]; rfl)]; rfl
      rw [this]; rfl
  · rintro r rfl
    have hfb := q_fin_b hB (beam := x1) (most := x3)
    have hcond : 0 ≤ x1 ∧ 1 ≤ x3 ∧ 0 ≤ x4 ∧ x4 ≤ 2 := by omega
    rw [if_pos hcond]
    simp only [J_X12_found_268, q_g, q_b, q_let, q_ite, q_some, z32, z64, true_or, or_true, true_and, and_true]
    cases hq : q_fin g x1 x3 with
    | none =>
      have e1 : (q_pr none).1 = 1000000000000000000 := rfl
      have e2 : (q_pr none).2 = -1 := rfl
      rw [e1, e2]
      refine ⟨by omega, fun h2 => ⟨hK, h00, fun _ => ?_⟩, fun h2 => ⟨by omega, fun h0 => ⟨by decide, hK, h00, fun _ => ?_⟩, fun h0 => q_eq (s_X12_told (by decide)) ⟨hK, h00, fun _ => ?_⟩⟩⟩
      · unfold q_found; rw [if_pos h2]; exact b3
      · unfold q_found; rw [if_neg h2, hq]
      · unfold q_found; rw [if_neg h2, hq]; rfl
    | some p =>
      obtain ⟨x, n⟩ := p
      have hx := hfb x n hq
      have e1 : (q_pr (some (x, n))).1 = x := rfl
      have e2 : (q_pr (some (x, n))).2 = n := rfl
      rw [e1, e2]
      refine ⟨by omega, fun h2 => ⟨hK, h00, fun _ => ?_⟩, fun h2 => ⟨by omega, fun h0 => ⟨by omega, hK, h00, fun _ => ?_⟩, fun h0 => q_eq (s_X12_told (by omega)) ⟨hK, h00, fun _ => ?_⟩⟩⟩
      · unfold q_found; rw [if_pos h2]; exact b3
      · unfold q_found; rw [if_neg h2, hq]; show n = if x4 = 0 then n else x; rw [if_pos h0]
      · unfold q_found; rw [if_neg h2, hq]; show (if x < 1000000000000000000 then x else -1) = if x4 = 0 then n else x; rw [if_neg h0, if_pos (by omega)]
