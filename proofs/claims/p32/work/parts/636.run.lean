-- THE LAW, ROUND AFTER ROUND
theorem q_sum0 {g : z_St} : q_sum g 0 = g 168 2 := by unfold q_sum; rw [if_neg (by omega), if_pos rfl]
theorem q_sum2 {g : z_St} : q_sum g 2 = g 168 18 := by unfold q_sum; rw [if_neg (by omega), if_neg (by decide), if_neg (by decide), if_pos rfl]
def q_lP (v3 : Int) (r : (Int × Int × z_St) ⊕ (Int × z_St)) : Prop := ∃ s, r = .inl (1, v3 + 1, s) ∧ q_L 2 (v3 + 1) s
theorem q_L_e {W e e' : Int} {c : z_St} (h : q_L W e c) (k : e ≤ e') : q_L W e' c := ⟨h.1, q_LW_e h.2 k⟩
theorem lP_360 {f : Int → Int} {n9 v3 : Int} {s : z_St} (h : q_L 2 (v3 + 1) s) : q_ok (J_L_law_360 f n9 1 v3 s) (q_lP v3) := ⟨_, rfl, s, rfl, h⟩
theorem lP_la {f : Int → Int} {n9 v3 e : Int} {X : Option (Int × z_St)} (he : e ≤ v3 + 1) (h : q_ok X (q_la 2 e)) : q_ok (z_b X fun r => J_L_law_360 f n9 r.1 v3 r.2) (q_lP v3) := by
  rw [q_b]
  refine q_mono h ?_
  rintro ⟨v, s⟩ ⟨a, b⟩
  dsimp only at a b ⊢
  subst a
  exact lP_360 (q_L_e b he)
theorem s_law_138 {f : Int → Int} {n9 v3 v4 v5 v6 : Int} {g st : z_St} (h : q_INV g st) (hl : q_L 2 v3 st) (h3 : 0 ≤ v3 ∧ v3 ≤ 18) (h6 : 0 ≤ v6 ∧ v6 ≤ 16) (h5 : v6 = 0 → g 168 2 ≤ 5) : q_ok (J_L_law_138 f n9 v3 v4 v5 v6 (g 168 2) (g 168 18) st) (q_lP v3) := by
  have hB := h.2.1
  have hf1 := hB.1.1
  have hw1 := hB.2.2.2.2.1.1
  have l24 := hl.2.2.1
  have e24 := h.2.2.1.2.2.2.2.1.1
  unfold J_L_law_138
  rw [q_g]
  refine ⟨⟨⟨by omega, by omega⟩, by decide⟩, ?_⟩
  by_cases c1 : v6 < 10
  · rw [if_pos c1]
    exact lP_la (e := v3 + 1) (Int.le_refl _) (s_tst h hl (by omega) (by omega) h5)
  rw [if_neg c1, q_g]
  refine ⟨⟨⟨by omega, by omega⟩, by decide⟩, ?_⟩
  by_cases c2 : v6 < 12
  · rw [if_pos c2]
    exact lP_la (e := v3) (by omega) (la_of h hl (s_weighs h (by omega)))
  rw [if_neg c2, q_g]
  refine ⟨⟨⟨by omega, by omega⟩, by decide⟩, ?_⟩
  by_cases c3 : v6 = 12
  · rw [if_pos c3]
    refine low_eq (by decide) (fun r14 p14 => ?_)
    rw [q_g]
    refine ⟨⟨by omega, by omega⟩, ?_⟩
    have key : ∀ r : Int, 0 ≤ r ∧ r ≤ 1000 → q_ok (J_L_law_255 f n9 v3 r st) (q_lP v3) := fun r hr => by
      unfold J_L_law_255
      exact lP_la (e := v3) (by omega) (la_of h hl (s_rises h (by omega)))
    by_cases c : r14 = 0
    · rw [if_pos c]
      exact low_eq (by decide) (fun r p => key r (by omega))
    · rw [if_neg c]
      exact low_eq (by decide) (fun r p => key r (by omega))
  rw [if_neg c3, q_g]
  refine ⟨⟨⟨by omega, by omega⟩, by decide⟩, ?_⟩
  by_cases c4 : v6 = 13
  · rw [if_pos c4]
    refine low_eq (by decide) (fun r18 p18 => ?_)
    rw [q_g]
    refine ⟨⟨by omega, by omega⟩, ?_⟩
    refine low_eq (by decide) (fun r19 p19 => ?_)
    exact lP_la (e := v3) (by omega) (la_of h hl (s_finds h (by omega) (by omega)))
  rw [if_neg c4, q_g]
  refine ⟨⟨⟨by omega, by omega⟩, by decide⟩, ?_⟩
  by_cases c5 : v6 = 14
  · rw [if_pos c5]
    refine low_eq (by decide) (fun r21 p21 => ?_)
    rw [q_g]
    refine ⟨⟨by omega, by omega⟩, ?_⟩
    have key : ∀ r : Int, 0 ≤ r ∧ r ≤ 1500 → q_ok (J_L_law_330 f n9 v3 (g 168 2) r st) (q_lP v3) := fun r hr => by
      unfold J_L_law_330
      exact lP_la (e := v3) (by omega) (la_of h hl (s_lattice h hr rfl (by omega)))
    by_cases c : r21 = 0
    · rw [if_pos c]; exact key 0 (by decide)
    · rw [if_neg c]
      refine low_eq (by decide) (fun r p => ?_)
      rw [q_g]
      exact ⟨⟨by omega, by omega⟩, key r (by omega)⟩
  rw [if_neg c5, q_g]
  refine ⟨⟨⟨by omega, by omega⟩, by decide⟩, ?_⟩
  by_cases c6 : v6 = 15
  · rw [if_pos c6]
    exact lP_la (e := v3) (by omega) (la_of h hl (s_paths h rfl))
  · rw [if_neg c6]
    exact lP_la (e := v3) (by omega) (s_fits hl)
theorem s_law_b {f : Int → Int} {n9 v3 : Int} {st : z_St} (hl : q_L 2 v3 st) (h3 : 0 ≤ v3 ∧ v3 < 18) : q_ok (J_L_law_b27 f n9 1 v3 st) (q_lP v3) := by
  obtain ⟨g, h⟩ := hl.1
  unfold J_L_law_b27
  rw [q_g, q_g, if_pos h3.2, q_g, if_neg (by decide)]
  refine ⟨by omega, ⟨⟨by omega, by omega⟩, by decide⟩, by decide, ?_⟩
  refine cell_eq (by omega) (fun r4 => ?_)
  refine cell_eq (by omega) (fun r5 => ?_)
  refine low_eq (by decide) (fun r6 p6 => ?_)
  refine k_ask (a_sum h (by decide) (by decide)) (fun s1 i1 => ?_)
  refine k_ask (a_sum i1 (by decide) (by decide)) (fun s2 i2 => ?_)
  rw [q_sum0, q_sum2]
  have l2 := q_L_of h i2 hl
  have hB := h.2.1
  have hf1 := hB.1.1
  dsimp only
  rw [q_g]
  refine ⟨⟨by omega, by omega⟩, ?_⟩
  by_cases c : r6 = 0
  · rw [if_pos c, q_g]
    refine ⟨⟨⟨by omega, by omega⟩, by decide⟩, ?_⟩
    by_cases c5 : 5 < g 168 2
    · rw [if_pos c5, q_b]
      obtain ⟨p, e1, e2, ⟨g', i3⟩, e4⟩ := d_silence i2
      refine q_eq e1 ?_
      rw [q_let, e2, q_g, if_pos rfl]
      refine ⟨⟨⟨by omega, by omega⟩, by omega, by omega⟩, ?_⟩
      have e0 : g' 168 2 = 0 := by
        rw [← i3.2.2.1.1.1, e4 1 (by decide) (by decide) (by decide) (by decide) (by decide), z_up_at]
      refine k_ask (a_sum i3 (by decide) (by decide)) (fun s4 i4 => ?_)
      rw [q_sum0, e0]
      dsimp only
      rw [q_g, if_pos rfl]
      refine ⟨by decide, ?_⟩
      refine lP_360 ⟨⟨g', i4⟩, q_LW_of i3 i4 ?_⟩
      refine q_LW_row (c := z_up s2 1 2 0) ?_ (fun y hy => e4 y (by omega) (by omega) (by omega) (by omega) (by omega))
      refine q_LW_up (q_LW_e l2.2 (show v3 ≤ v3 + 1 by omega)) ?_ ?_ ?_ ?_ ?_ ?_ <;> (intros; omega)
    · rw [if_neg c5]
      exact s_law_138 i2 l2 (by omega) (by omega) (fun _ => by omega)
  · rw [if_neg c]
    exact s_law_138 i2 l2 (by omega) (by omega) (fun h9 => absurd h9 c)
theorem s_law (f : Int → Int) (n9 : Int) : ∃ o, J_L_law_8 f n9 z_s0 = some o ∧ o.1 = 1 := by
  have key : q_ok (J_L_law_8 f n9 z_s0) (fun o => o.1 = 1) := by
    unfold J_L_law_8
    refine cell_eq (by decide) (fun r1 => ?_)
    refine low_eq (by decide) (fun r2 p2 => ?_)
    rw [q_b]
    refine q_mono (s_builds (by omega)) ?_
    rintro ⟨v, s⟩ ⟨a, b⟩
    dsimp only at a b ⊢
    subst a
    rw [q_b]
    refine q_mono (P := fun q : Int × z_St => q.1 = 1) ?_ (fun q hq => ⟨_, rfl, hq⟩)
    refine q_loop (fun q => q.1 = 1 ∧ (0 ≤ q.2.1 ∧ q.2.1 ≤ 18) ∧ q_L 2 q.2.1 q.2.2) (fun q => (19 - q.2.1).toNat) ⟨rfl, ⟨by dsimp only; omega, by dsimp only; omega⟩, b⟩ (by show (19 - (0 : Int)).toNat < 1000000; decide) ?_
    rintro ⟨v2, v3, s1⟩ ⟨i1, i2, i3⟩
    dsimp only at i1 i2 i3
    subst i1
    by_cases c : v3 < 18
    · refine q_mono (s_law_b i3 ⟨i2.1, c⟩) ?_
      rintro r ⟨s2, rfl, j⟩
      exact ⟨⟨rfl, ⟨by dsimp only; omega, by dsimp only; omega⟩, j⟩, by dsimp only; omega⟩
    · unfold J_L_law_b27
      dsimp only
      rw [q_g, q_g, if_neg c]
      exact ⟨by omega, ⟨⟨by omega, by omega⟩, by decide⟩, _, rfl, rfl⟩
  obtain ⟨o, e, k⟩ := key
  exact ⟨o, e, k⟩
