-- THE CLASS'S SEARCH: run
theorem s_X8_run {g st0 : z_St} (hB : q_RB g) (hT : q_TC g st0) {beam most : Int} (hbm : 0 ≤ beam ∧ beam ≤ 9223372036854775807) (hms : 1 ≤ most ∧ most ≤ 2147483647) :
    q_ok (J_X8_run (g 168 18) (g 168 2) beam most st0) (fun st => (∀ x, (x < 140 ∨ 143 < x) → st x = st0 x) ∧ st 140 3 = q_dr g beam most (g 168 2).toNat ∧ q_cF st (q_fin g beam most)) := by
  have hw1 := hB.2.2.2.2.1.1
  have hf1 := hB.1.1
  simp only [J_X8_run, q_g, q_b, q_let, q_ite, q_some, z32, z64, true_or, or_true, true_and, and_true]
  refine q_mono (s_J7_fill (nn := 340) (x0 := 141) (x1 := 1152921504606846976) (by decide)) ?_
  rintro st1 ⟨a1, a2⟩
  refine q_mono (P := fun st => (∀ x, (x < 140 ∨ 143 < x) → st x = st0 x) ∧ st 140 3 = q_dr g beam most (g 168 2).toNat ∧ ∀ s k : Nat, s ≤ 16 → k < 20 → q_cE st (20 * (s : Int) + k) (q_Hs g beam most (g 168 2).toNat s k)) ?_ ?_
  · refine q_for (fun T st => (∀ x, (x < 140 ∨ 143 < x) → st x = st0 x) ∧ st 140 3 = q_dr g beam most T ∧ ∀ s k : Nat, s ≤ 16 → k < 20 → q_cE st (20 * (s : Int) + k) (q_Hs g beam most T s k)) 1 (g 168 2).toNat (by omega) ⟨fun x hx => by rw [a1 x (by omega), q_up_row (by omega)], by rw [a1 140 (by decide), z_up_at]; rfl, fun s k b c => ?_⟩ ?_ ?_
    · show st1 141 _ = 1152921504606846976
      rw [a2, if_pos (by omega)]
    · rintro T st hT9 ⟨i1, i2, i3⟩
      have hT1 : q_TC g st := q_TC_of hT hB (fun x a b => by unfold q_isT at a; exact i1 x (by omega))
      have hHb := q_Hs_b hB (beam := beam) (most := most) (T := T) (by omega)
      simp only [J_X8_run_b18, q_g, q_b, q_let, q_ite, q_some, z32, z64, true_or, or_true, true_and, and_true]
      refine ⟨by omega, fun h9 => by omega, fun _ => ?_⟩
      have key := s_run_27 hB hT1 hHb (t := T + 1) (by omega) (by omega) (fun s k b c => i3 s k (by omega) c) (fun k hk => by
        have := i3 (T + 1) k (by omega) hk
        rw [q_Hs_out (Or.inr (Nat.lt_succ_self T))] at this
        exact this) (v3 := g 168 2) (v4 := beam) (v6 := most)
      rw [show ((T + 1 : Nat) : Int) = 1 + (T : Int) by omega] at key
      refine q_mono key ?_
      rintro st2 ⟨⟨b1, b2⟩, b3⟩
      have hEb : ∀ k, q_ob k (q_Et g beam most T k) := fun k => (q_E_ob hB hHb (t := T + 1) (k := k) (by omega)).1
      have key2 := s_X8_dropDear (st0 := st2) (t := T + 1) (by omega) hbm hEb (fun k hk => by
        rw [show ((T + 1 : Nat) : Int) = 1 + (T : Int) by omega]; exact b3 k hk)
      rw [show 20 * ((T + 1 : Nat) : Int) = (1 + (T : Int)) * 20 by omega] at key2
      refine q_mono key2 ?_
      rintro st3 ⟨⟨c1, c2, c3⟩, c4, c5⟩
      have key3 := s_X8_dropLate (st0 := st3) (t := T + 1) (by omega) hms (q_ob_e1 (beam := beam) hEb) (fun k hk => by
        rw [show 20 * ((T + 1 : Nat) : Int) = (1 + (T : Int)) * 20 by omega]; exact c5 k hk)
      rw [show 20 * ((T + 1 : Nat) : Int) = (1 + (T : Int)) * 20 by omega] at key3
      refine q_mono key3 ?_
      rintro st4 ⟨⟨d1, d2, d3⟩, d4, d5⟩
      refine ⟨_, rfl, fun x hx => by rw [d1 x (by omega) (by omega) (by omega), c1 x (by omega) (by omega) (by omega), b1 x (by omega) (by omega)]; exact i1 x hx, ?_, fun s k e1 e2 => ?_⟩
      · rw [d4, c4, b1 140 (by decide) (by decide), i2]
        have h12 := q_n12 (beam := beam) (most := most) (E := q_Et g beam most T) 20
        show _ = q_dr g beam most T + (q_nd beam most (q_Et g beam most T) : Int)
        unfold q_nd
        omega
      · by_cases e : s = T + 1
        · subst e
          rw [q_Hs_at, ← q_e12, show 20 * ((T + 1 : Nat) : Int) = (1 + (T : Int)) * 20 by omega]
          exact d5 k e2
        · have e4 : q_Hs g beam most (T + 1) s k = q_Hs g beam most T s k := by
            show (if s = T + 1 then _ else _) = _
            rw [if_neg e]
          rw [e4]
          have hj : 20 * (s : Int) + k < 20 * (1 + (T : Int)) ∨ 20 * (1 + (T : Int)) + 20 ≤ 20 * (s : Int) + k := by omega
          refine q_cE_of (i3 s k e1 e2) ?_ ?_
          · rw [d3 _ (by omega), c3 _ (by omega)]; exact (b2 _ (by omega)).1
          · rw [d1 142 (by decide) (by decide) (by decide), c1 142 (by decide) (by decide) (by decide)]; exact (b2 _ (by omega)).2
    · rintro st ⟨i1, i2, i3⟩
      simp only [J_X8_run_b18, q_g, q_b, q_let, q_ite, q_some, z32, z64, true_or, or_true, true_and, and_true]
      exact ⟨by omega, fun _ => ⟨_, rfl, i1, i2, i3⟩, fun h9 => by omega⟩
  · rintro st2 ⟨b1, b2, b3⟩
    have hT2 : q_TC g st2 := q_TC_of hT hB (fun x a b => by unfold q_isT at a; exact b1 x (by omega))
    have hHb := q_Hs_b hB (beam := beam) (most := most) (T := (g 168 2).toNat) (by omega)
    have key := s_X8_finish hB hT2 hHb (T := (g 168 2).toNat) (by omega) (fun k hk => b3 _ k (by omega) hk)
    rw [show (((g 168 2).toNat : Nat) : Int) = g 168 2 by omega] at key
    refine q_mono key ?_
    rintro st3 ⟨c1, c2, c3⟩
    exact ⟨fun x hx => (c1 x (by omega)).trans (b1 x hx), by rw [c2 3 (by decide) (by decide)]; exact b2, c3⟩
