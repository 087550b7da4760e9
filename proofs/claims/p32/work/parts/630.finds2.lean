-- FINDS, the law's own
theorem q_dr_0 {g : z_St} (hB : q_RB g) : ∀ T : Nat, T ≤ g 168 2 → q_dr g 900000000000000000 20 T = 0 := by
  intro T
  induction T with
  | zero => intro _; rfl
  | succ T ih =>
    intro hT
    have hds : q_dr g 900000000000000000 20 (T + 1) = q_dr g 900000000000000000 20 T + (q_nd 900000000000000000 20 (q_Et g 900000000000000000 20 T) : Int) := rfl
    have i := ih (by omega)
    have : q_nd 900000000000000000 20 (q_Et g 900000000000000000 20 T) = 0 := by
      refine e_cnt_zero fun k hk => ?_
      refine Bool.eq_false_iff.mpr fun hq => ?_
      have hob := fun k => (q_E_ob hB (q_Hs_b hB (beam := 900000000000000000) (most := 20) (T := T) (by omega)) (t := T + 1) (k := k) (by omega)).1
      cases hE : q_Et g 900000000000000000 20 T k with
      | none => rw [hE] at hq; cases hq
      | some p =>
        obtain ⟨x, n⟩ := p
        have hx := q_ob_at hk (hob k) x n hE
        have hl := q_low_bd (E := q_Et g 900000000000000000 20 T) hob
        have hl0 : 0 ≤ e_I 0 (q_low (q_Et g 900000000000000000 20 T)) := by
          rcases e_I_cases (K := 0) (q_low (q_Et g 900000000000000000 20 T)) with ⟨_, e⟩ | ⟨y, e, e'⟩
          · omega
          · have := hl y e; omega
        have ha : q_ahd (q_Et g 900000000000000000 20 T) k < 20 := by
          obtain ⟨z1, z2⟩ := e_cnt_lt (f := fun j => q_aB (q_Et g 900000000000000000 20 T j) (q_Et g 900000000000000000 20 T k)) (h := fun _ => true) (n := 20) (a := k) (fun i hi hq => rfl)
          have z3 := z2 hk rfl (fun hq => by
            have hq' : q_aB (q_Et g 900000000000000000 20 T k) (q_Et g 900000000000000000 20 T k) = true := hq
            rw [hE, q_aB_iff] at hq'; omega)
          have z4 : e_cnt (fun _ => true) 20 = 20 := by decide
          unfold q_ahd
          omega
        have hk2 : q_kp 900000000000000000 20 (q_Et g 900000000000000000 20 T) k = some (x, n) := by
          unfold q_kp
          rw [hE]
          show (if x - e_I 0 (q_low (q_Et g 900000000000000000 20 T)) ≤ 900000000000000000 ∧ (q_ahd (q_Et g 900000000000000000 20 T) k : Int) < 20 then some (x, n) else none) = _
          rw [if_pos (by omega)]
        rw [hE, hk2] at hq
        cases hq
    omega
theorem s_finds {g st : z_St} (h : q_INV g st) {x1 x3 : Int} (h1 : 0 ≤ x1 ∧ x1 ≤ 1000) (h3 : 1 ≤ x3 ∧ x3 ≤ 100) : q_ok (J_L_finds x1 x3 st) (q_ans g 1) := by
  have hB := h.2.1
  have hf1 := hB.1.1
  have d0 := q_dr_0 hB (g 168 2).toNat (by omega)
  have hdr := q_dr_bd (g := g) (beam := x1) (most := x3) (g 168 2).toNat
  have e92 : q_found g 900000000000000000 20 2 = 0 := by unfold q_found; rw [if_pos rfl]; exact d0
  have e2 : q_found g x1 x3 2 = q_dr g x1 x3 (g 168 2).toNat := by unfold q_found; rw [if_pos rfl]
  unfold J_L_finds
  refine k_b0 h (fun v s1 i1 hv => ?_)
  -- what is found at all
  have two : ∀ (W : Int) (s : z_St), q_INV g s → -1 ≤ W ∧ W ≤ 10000000000000 → -1 ≤ v ∧ v ≤ 9999 → (q_found g 900000000000000000 20 0 = v) → (q_found g 900000000000000000 20 1 = W) →
      ((q_fin g x1 x3 = none) ∧ (q_dr g x1 x3 (g 168 2).toNat = 0 → v = -1) ∨ ∃ y n z, q_fin g x1 x3 = some (y, n) ∧ q_isRow g n ∧ q_wt g n = some z ∧ (z ≤ y ∧ W ≤ z ∧ 0 ≤ z ∧ y ≤ 10000000000000) ∧ (1 ≤ n ∧ n ≤ 9999) ∧ (q_dr g x1 x3 (g 168 2).toNat = 0 → n = v)) → q_ok (J_L_finds_32 x1 x3 v W s) (q_ans g 1) := by
    intro W s i bW bv f0 f1 hc
    unfold J_L_finds_32
    refine k_does (a_found i (by decide) (by decide) (by decide) (by decide)) (fun s2 i2 => ?_)
    rw [f0]
    dsimp only
    rw [q_g, q_g, if_pos rfl]
    refine ⟨⟨by omega, by omega⟩, ⟨⟨by omega, by omega⟩, by omega, by omega⟩, ?_⟩
    refine k_does (a_found i2 (by decide) (by decide) (by decide) (by decide)) (fun s3 i3 => ?_)
    rw [f1]
    dsimp only
    rw [q_g, if_pos rfl]
    refine ⟨⟨⟨by omega, by omega⟩, by omega, by omega⟩, ?_⟩
    refine k_does (a_found i3 (by decide) (by decide) (by decide) (by decide)) (fun s4 i4 => ?_)
    rw [e92]
    dsimp only
    rw [q_g, if_pos rfl]
    refine ⟨by decide, ?_⟩
    unfold J_L_finds_96
    refine k_does (a_found i4 (by exact ⟨by omega, by omega⟩) (by exact ⟨by omega, by omega⟩) (by decide) (by omega)) (fun s5 i5 => ?_)
    refine k_does (a_found i5 (by exact ⟨by omega, by omega⟩) (by exact ⟨by omega, by omega⟩) (by decide) (by omega)) (fun s6 i6 => ?_)
    refine k_does (a_found i6 (by exact ⟨by omega, by omega⟩) (by exact ⟨by omega, by omega⟩) (by decide) (by omega)) (fun s7 i7 => ?_)
    rw [e2]
    dsimp only
    rcases hc with ⟨c1, c2⟩ | ⟨y, n, z, c1, c2, c3, c4, c5, c6⟩
    · have g0 : q_found g x1 x3 0 = -1 := by unfold q_found; rw [if_neg (by decide), c1]
      have g1 : q_found g x1 x3 1 = -1 := by unfold q_found; rw [if_neg (by decide), c1]
      rw [g0, g1]
      generalize q_dr g x1 x3 (g 168 2).toNat = D at *
      simp only [J_L_finds_155, J_L_finds_167, J_L_finds_174, J_L_finds_175, J_L_finds_217, J_L_finds_221, J_L_finds_222, J_L_finds_246, J_L_finds_250, J_L_finds_251, q_g, q_b, q_let, q_ite, q_some, z32, z64, true_or, or_true, true_and, and_true, iand11, iand10, iand01, iand00]
      (repeat' (first | omega | exact ⟨i7, rfl⟩ | exact ⟨by omega, ⟨i7, rfl⟩⟩ | exact absurd True.intro (by assumption) | refine And.intro ?_ ?_ | intro _))
    · have g0 : q_found g x1 x3 0 = n := by unfold q_found; rw [if_neg (by decide), c1]; rfl
      have g1 : q_found g x1 x3 1 = y := by unfold q_found; rw [if_neg (by decide), c1]; rfl
      rw [g0, g1]
      generalize q_dr g x1 x3 (g 168 2).toNat = D at *
      have zn : z32 n := ⟨by omega, by omega⟩
      rw [q_g, if_neg (by omega), q_g, if_neg (by omega)]
      refine ⟨⟨⟨by omega, by omega⟩, by decide⟩, ⟨⟨by omega, by omega⟩, by decide⟩, ?_⟩
      unfold J_L_finds_155
      rw [q_g, if_neg (by omega)]
      refine ⟨⟨⟨by omega, by omega⟩, by decide⟩, ?_⟩
      unfold J_L_finds_167
      rw [q_g, if_pos rfl]
      refine ⟨⟨by decide, by decide⟩, ?_⟩
      unfold J_L_finds_175
      rw [q_g, if_neg (by omega)]
      refine ⟨⟨⟨by omega, by omega⟩, by decide⟩, ?_⟩
      refine k_ask (a_weight i7 zn c2) (fun s8 i8 => ?_)
      rw [c3, e_I_some]
      dsimp only
      rw [q_g, if_neg (by omega)]
      refine ⟨⟨⟨by omega, by omega⟩, by omega, by omega⟩, ?_⟩
      refine k_ask (a_weight i8 zn c2) (fun s9 i9 => ?_)
      rw [c3, e_I_some]
      simp only [J_L_finds_155, J_L_finds_167, J_L_finds_174, J_L_finds_175, J_L_finds_217, J_L_finds_221, J_L_finds_222, J_L_finds_246, J_L_finds_250, J_L_finds_251, q_g, q_b, q_let, q_ite, q_some, z32, z64, true_or, or_true, true_and, and_true, iand11, iand10, iand01, iand00]
      (repeat' (first | omega | exact ⟨i9, rfl⟩ | exact ⟨by omega, ⟨i9, rfl⟩⟩ | exact absurd True.intro (by assumption) | refine And.intro ?_ ?_ | intro _))
  rcases hv with ⟨hn, rfl⟩ | ⟨b, n, hb, rfl, hr, n1, n9⟩
  · dsimp only
    rw [q_g, if_pos (by decide)]
    have f := q_fin_none hB (beam := 900000000000000000) (most := 20) hn
    refine ⟨by decide, two (-1) s1 i1 (by decide) (by decide) ?_ ?_ (Or.inl ⟨q_fin_none hB hn, fun _ => rfl⟩)⟩
    · unfold q_found; rw [if_neg (by decide), f]
    · unfold q_found; rw [if_neg (by decide), f]
  · have yn : z32 (n : Int) := ⟨by omega, by omega⟩
    obtain ⟨y, k1, k2⟩ := q_fin_best hB (beam := 900000000000000000) (most := 20) d0 hb
    obtain ⟨y', k1', k3, k4⟩ := q_row_best hB hb
    have ey : y' = y := Option.some.inj (k1'.symm.trans k1)
    subst ey
    dsimp only
    rw [q_g, if_neg (by omega), q_g]
    refine ⟨yn, yn, k_ask (a_weight i1 yn hr) (fun s2 i2 => ?_)⟩
    rw [k1, e_I_some]
    refine two y' s2 i2 (by omega) (by omega) ?_ ?_ ?_
    · unfold q_found; rw [if_neg (by decide), k2]; rfl
    · unfold q_found; rw [if_neg (by decide), k2]; rfl
    · cases hq : q_fin g x1 x3 with
      | none =>
        refine Or.inl ⟨rfl, fun hd => ?_⟩
        obtain ⟨y2, _, k5⟩ := q_fin_best hB hd hb
        rw [hq] at k5; cases k5
      | some p =>
        obtain ⟨y2, n2⟩ := p
        obtain ⟨f1, z, f2, f3⟩ := q_fin_sd hB hq
        have fb := q_fin_b hB y2 n2 hq
        obtain ⟨n3, e3, _, _⟩ := q_isRow_nat f1
        refine Or.inr ⟨y2, n2, z, rfl, f1, f2, ?_, by omega, fun hd => ?_⟩
        · rcases k4 n2 f1 with h | ⟨z', p1, p2, p3, p4⟩
          · rw [h] at f2; cases f2
          · have : z' = z := Option.some.inj (p1.symm.trans f2)
            omega
        · obtain ⟨y3, _, k5⟩ := q_fin_best hB hd hb
          rw [hq] at k5
          have := Prod.mk.inj (Option.some.inj k5)
          omega
