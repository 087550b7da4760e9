-- THE LAW'S INVARIANT, on the class's own cells; fits
def q_SM (c : z_St) : Prop := (∀ i w, 0 ≤ i → i < 16 → 0 ≤ w → w < 3 → -20 ≤ c (3 + i) w ∧ c (3 + i) w ≤ 20) ∧ (∀ i w, 0 ≤ i → i < 4 → 0 ≤ w → w < 3 → -60 ≤ c (20 + i) w ∧ c (20 + i) w ≤ 60) ∧ ∀ s w, 0 ≤ s → s < 6 → 0 ≤ w → w < 3 → (-20 ≤ c (29 + 5 * s + 1) w ∧ c (29 + 5 * s + 1) w ≤ 20) ∧ (-20 ≤ c (29 + 5 * s + 4) w ∧ c (29 + 5 * s + 4) w ≤ 20)
def q_LW (W e : Int) (c : z_St) : Prop := c 1 2 ≤ 6 ∧ W ≤ c 24 4 ∧ c 89 3 ≤ 5 * e ∧ q_SM c
/-- what holds at every place of the law: W words at least, e events so far -/
def q_L (W e : Int) (c : z_St) : Prop := (∃ g, q_INV g c) ∧ q_LW W e c
theorem q_SM_of {g c c' : z_St} (h : q_INV g c) (h' : q_INV g c') (hs : q_SM c) : q_SM c' := by
  obtain ⟨a1, a2, a3, _⟩ := h.2.2.1
  obtain ⟨b1, b2, b3, _⟩ := h'.2.2.1
  refine ⟨fun i w p q r s => ?_, fun i w p q r s => ?_, fun s w p q r t => ?_⟩
  · rw [b1.2 i w p q r s, ← a1.2 i w p q r s]; exact hs.1 i w p q r s
  · rw [b2.2 i w p q r s, ← a2.2 i w p q r s]; exact hs.2.1 i w p q r s
  · have x1 := (a3.2.1 s p q).2 w r t
    have x2 := (b3.2.1 s p q).2 w r t
    have := hs.2.2 s w p q r t
    rw [x2.1, ← x1.1, x2.2.2.2, ← x1.2.2.2]
    exact this
theorem q_LW_of {g c c' : z_St} {W e : Int} (h : q_INV g c) (h' : q_INV g c') (hl : q_LW W e c) : q_LW W e c' := by
  obtain ⟨l1, l2, l3, l4⟩ := hl
  have a := h.2.2.1
  have b := h'.2.2.1
  refine ⟨?_, ?_, ?_, q_SM_of h h' l4⟩
  · rw [b.1.1, ← a.1.1]; exact l1
  · rw [b.2.2.2.2.1.1, ← a.2.2.2.2.1.1]; exact l2
  · rw [b.2.2.2.2.2.1, ← a.2.2.2.2.2.1]; exact l3
theorem q_L_of {g c c' : z_St} {W e : Int} (h : q_INV g c) (h' : q_INV g c') (hl : q_L W e c) : q_L W e c' := ⟨⟨g, h'⟩, q_LW_of h h' hl.2⟩
theorem q_LW_e {W e e' : Int} {c : z_St} (h : q_LW W e c) (k : e ≤ e') : q_LW W e' c := ⟨h.1, h.2.1, by have := h.2.2.1; omega, h.2.2.2⟩
theorem q_LW_row {W e : Int} {c c' : z_St} (h : q_LW W e c) (k : ∀ y, (y = 1 ∨ y = 24 ∨ y = 89 ∨ (3 ≤ y ∧ y ≤ 18) ∨ (20 ≤ y ∧ y ≤ 23) ∨ (29 ≤ y ∧ y ≤ 58)) → c' y = c y) : q_LW W e c' := by
  obtain ⟨l1, l2, l3, l4⟩ := h
  refine ⟨by rw [k 1 (by omega)]; exact l1, by rw [k 24 (by omega)]; exact l2, by rw [k 89 (by omega)]; exact l3, fun i w p q r s => ?_, fun i w p q r s => ?_, fun s w p q r t => ?_⟩
  · rw [k (3 + i) (by omega)]; exact l4.1 i w p q r s
  · rw [k (20 + i) (by omega)]; exact l4.2.1 i w p q r s
  · rw [k (29 + 5 * s + 1) (by omega), k (29 + 5 * s + 4) (by omega)]; exact l4.2.2 s w p q r t
theorem q_LW_up {W e i j v : Int} {c : z_St} (h : q_LW W e c) (k1 : i = 1 → j = 2 → v ≤ 6) (k2 : i = 24 → j = 4 → W ≤ v) (k3 : i = 89 → j = 3 → v ≤ 5 * e) (k4 : 3 ≤ i → i ≤ 18 → -20 ≤ v ∧ v ≤ 20) (k5 : 20 ≤ i → i ≤ 23 → -60 ≤ v ∧ v ≤ 60) (k6 : 29 ≤ i → i ≤ 58 → (i % 5 = 0 ∨ i % 5 = 3) → -20 ≤ v ∧ v ≤ 20) : q_LW W e (z_up c i j v) := by
  obtain ⟨l1, l2, l3, l4⟩ := h
  have up : ∀ a b, z_up c i j v a b = if a = i ∧ b = j then v else c a b := fun _ _ => rfl
  refine ⟨?_, ?_, ?_, fun s w p q r t => ?_, fun s w p q r t => ?_, fun s w p q r t => ?_⟩
  · rw [up]; by_cases d : (1 : Int) = i ∧ 2 = j
    · rw [if_pos d]; exact k1 d.1.symm d.2.symm
    · rw [if_neg d]; exact l1
  · rw [up]; by_cases d : (24 : Int) = i ∧ 4 = j
    · rw [if_pos d]; exact k2 d.1.symm d.2.symm
    · rw [if_neg d]; exact l2
  · rw [up]; by_cases d : (89 : Int) = i ∧ 3 = j
    · rw [if_pos d]; exact k3 d.1.symm d.2.symm
    · rw [if_neg d]; exact l3
  · rw [up]; by_cases d : 3 + s = i ∧ w = j
    · rw [if_pos d]; exact k4 (by omega) (by omega)
    · rw [if_neg d]; exact l4.1 s w p q r t
  · rw [up]; by_cases d : 20 + s = i ∧ w = j
    · rw [if_pos d]; exact k5 (by omega) (by omega)
    · rw [if_neg d]; exact l4.2.1 s w p q r t
  · have z := l4.2.2 s w p q r t
    rw [up, up]
    constructor
    · by_cases d : 29 + 5 * s + 1 = i ∧ w = j
      · rw [if_pos d]; exact k6 (by omega) (by omega) (Or.inl (by omega))
      · rw [if_neg d]; exact z.1
    · by_cases d : 29 + 5 * s + 4 = i ∧ w = j
      · rw [if_pos d]; exact k6 (by omega) (by omega) (Or.inr (by omega))
      · rw [if_neg d]; exact z.2
/-- a call's own answer, with the invariant kept -/
def q_la (W e : Int) (r : Int × z_St) : Prop := r.1 = 1 ∧ q_L W e r.2
theorem la_of {g st : z_St} {W e : Int} {X : Option (Int × z_St)} (h : q_INV g st) (hl : q_L W e st) (hx : q_ok X (q_ans g 1)) : q_ok X (q_la W e) := by
  refine q_mono hx ?_
  rintro r ⟨a, b⟩
  exact ⟨b, q_L_of h a hl⟩
theorem s_fits {W e : Int} {st : z_St} (hl : q_L W e st) : q_ok (J_L_fits st) (q_la W e) := by
  obtain ⟨g, h⟩ := hl.1
  have hB := h.2.1
  have hC := h.2.2.1
  unfold J_L_fits
  have last : ∀ s, q_L W e s → q_ok (J_L_fits_58 1 s) (q_la W e) := fun s hs => by
    unfold J_L_fits_58
    rw [q_g]
    exact ⟨Or.inr rfl, _, rfl, rfl, hs⟩
  by_cases hn : q_bw g = none
  · refine k_ask (d_fit_n h hn) (fun s1 i1 => ?_)
    refine k_b0 i1 (fun v s2 i2 hv => ?_)
    rcases hv with ⟨_, rfl⟩ | ⟨b, n, hb, _⟩
    · dsimp only
      rw [q_g, if_pos (by decide), q_g, if_pos rfl]
      exact ⟨by decide, by decide, last s2 (q_L_of h i2 hl)⟩
    · obtain ⟨y, e1, _⟩ := q_row_best hB hb
      rw [q_row_none hB hn (q_rows_isRow hB hb.1)] at e1; cases e1
  · rw [q_b]
    refine q_mono (ask_of (d_fit h hn)) ?_
    rintro ⟨V, s1⟩ ⟨⟨g', i1, hV⟩, f1, f2, f3, a, bb, f4, f5⟩
    dsimp only at i1 hV f1 f2 f5 ⊢
    have hs4 := hB.2.1.1
    have hf1 := hB.1.1
    have hn1 := hB.2.2.1
    have e3 : st 1 3 = g 168 4 := hC.2.1.1
    have sm := hl.2.2.2.2
    -- what lies within, lies within
    have gd : ∀ fr : Nat, fr < g 168 2 → ∀ w : Nat, w < 3 → -60 ≤ g 169 (3 * (fr : Int) + w) - q_lies g (a fr) (bb fr) w ∧ g 169 (3 * (fr : Int) + w) - q_lies g (a fr) (bb fr) w ≤ 60 := fun fr hfr w hw => by
      obtain ⟨p1, p2⟩ := f4 fr hfr
      have q1 := sm.1 fr w (by omega) (by omega) (by omega) (by omega)
      rw [hC.1.2 fr w (by omega) (by omega) (by omega) (by omega)] at q1
      have q2 := sm.2.2 (a fr) w (by omega) (by omega) (by omega) (by omega)
      have c1 := (hC.2.2.1.2.1 (a fr) (by omega) (by omega)).2 w (by omega) (by omega)
      rw [c1.1] at q2
      unfold q_lies
      by_cases hb0 : 0 < bb fr
      · rw [if_pos hb0]
        have q3 := (sm.2.2 (a fr) (bb fr - 1) (by omega) (by omega) (by omega) (by omega)).2
        have c2 := (hC.2.2.1.2.1 (a fr) (by omega) (by omega)).2 (bb fr - 1) (by omega) (by omega)
        rw [c2.2.2.2, show 3 * a fr + (bb fr - 1) = 3 * a fr + bb fr - 1 by omega] at q3
        omega
      · rw [if_neg hb0]
        omega
    have lw : q_LW W e s1 := by
      obtain ⟨l1, l2, l3, l4⟩ := hl.2
      refine ⟨by rw [f1 1 (by decide) (by decide) (by omega)]; exact l1, by rw [f1 24 (by decide) (by decide) (by omega)]; exact l2, by rw [f2]; exact l3, fun i w p q r s => ?_, fun i w p q r s => ?_, fun s w p q r t => ?_⟩
      · rw [f1 (3 + i) (by omega) (by omega) (by omega)]; exact l4.1 i w p q r s
      · by_cases d : i = g 168 4
        · subst d
          have := f5 w.toNat (by omega)
          rw [show (w.toNat : Int) = w by omega] at this
          rw [this]
          exact q_ns_bd f3 (fun fr hfr => gd fr hfr w.toNat (by omega))
        · rw [f1 (20 + i) (by omega) (by omega) (by omega)]; exact l4.2.1 i w p q r s
      · rw [f1 (29 + 5 * s + 1) (by omega) (by omega) (by omega), f1 (29 + 5 * s + 4) (by omega) (by omega) (by omega)]; exact l4.2.2 s w p q r t
    refine k_b0 i1 (fun v s2 i2 hv => ?_)
    rcases hv with ⟨hn', rfl⟩ | ⟨b, n, hb, rfl, hr, n1, n9⟩
    · rw [hn'] at hV; cases hV
    · have yn : z32 (n : Int) := ⟨by omega, by omega⟩
      have hB' := i2.2.1
      obtain ⟨h1, y, h2, h3⟩ := hb
      have hyb := q_wl_bd hB' b y h2
      have hbw := q_bw_of (List.getElem?_eq_some_iff.mp h1).1 h2 (fun i y a b => (h3 i y a b).1)
      have eV : V = y := Option.some.inj (hV.symm.trans hbw)
      dsimp only
      rw [q_g, if_neg (by omega)]
      refine ⟨⟨⟨by omega, by omega⟩, by decide⟩, ?_⟩
      refine k_ask (a_weight i2 yn hr) (fun s3 i3 => ?_)
      rw [← q_wl_at h1, h2, e_I_some, eV]
      dsimp only
      rw [q_g, if_pos rfl]
      exact ⟨⟨⟨by omega, by omega⟩, by omega, by omega⟩, last s3 ⟨⟨g', i3⟩, q_LW_of i1 i3 lw⟩⟩
