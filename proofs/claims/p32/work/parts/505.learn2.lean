-- learn, the call
theorem q_GG_b6 {st s1 s2 : z_St} (hG : q_GG st st) (a : ∀ j, 1 ≤ j → j ≤ 22 → j ≠ 20 → s2 168 j = st 168 j) (b : ∀ y, 169 ≤ y → y ≤ 181 → s2 y = st y) (d : ∀ y, 1 ≤ y → y ≤ 88 → s1 y = st y) (h6 : q_G6 s2 s1) : q_GG s2 s1 := by
  obtain ⟨h1, h2, h3, h4, h5, _⟩ := hG
  exact ⟨k_1 h1 (a 2 (by decide) (by decide) (by decide)) (b 169 (by decide) (by decide)) (by rw [d 1 (by decide) (by decide)]) (fun x p q => d x (by omega) (by omega)), k_2 h2 (a 4 (by decide) (by decide) (by decide)) (b 170 (by decide) (by decide)) (by rw [d 1 (by decide) (by decide)]) (fun x p q => d x (by omega) (by omega)), k_3 h3 (a 11 (by decide) (by decide) (by decide)) (fun x p q => b x (by omega) (by omega)) (by rw [d 24 (by decide) (by decide)]) (fun x p q => d x (by omega) (by omega)), k_4 h4 (a 13 (by decide) (by decide) (by decide)) (b 177 (by decide) (by decide)) (by rw [d 24 (by decide) (by decide)]) (d 28 (by decide) (by decide)), k_5 h5 (a 18 (by decide) (by decide) (by decide)) (by rw [a 11 (by decide) (by decide) (by decide)]; exact Int.le_refl _) (fun x p q => b x (by omega) (by omega)) (by rw [d 24 (by decide) (by decide)]) (fun x p => d x (by omega) (by omega)), h6⟩
theorem j_14 {g st : z_St} {f : Int → Int} {i : Int} (h : q_INV g st) (hc9 : g 168 20 ≤ 2995) (hf : ∀ j, z32 (f j)) : q_ok (JL_14 f i st) (q_out g) := by
  have hB := h.2.1
  have hC := h.2.2.1
  have hw1 := hB.2.2.2.2.1.1
  have hp1 := hB.2.2.2.2.2.2.1
  obtain ⟨x, hx⟩ : ∃ x, f (i + 1) = x := ⟨_, rfl⟩
  have zx : z32 x := hx ▸ hf (i + 1)
  unfold JL_14
  rw [hx]
  have hck := s_checkRow hC hB zx
  have hmx := q_many_bd x
  by_cases hrow : q_isRow g x
  · have hr1 := hrow.1
    obtain ⟨hG, h20⟩ := q_GG_self h
    obtain ⟨st4, f1, f2, f3, f4⟩ := s_X6_read (id := 158) (n := x) (st0 := st) (by decide) hr1
    obtain ⟨K, hK⟩ : ∃ K, K = (q_many x).toNat + 1 := ⟨_, rfl⟩
    obtain ⟨s1, hs1⟩ : ∃ s1, s1 = q_cn x st4 K := ⟨_, rfl⟩
    have hloopC := s_learn_c (by omega) hrow f4
    rw [← hK, ← hs1] at hloopC
    have hcn := q_cn_row (by omega : g 168 18 ≤ 5) hrow (c := st4) (k := K) (by omega)
    rw [← hs1] at hcn
    have c9 : ∀ y, y ≠ 89 → ¬ (91 ≤ y ∧ y ≤ 98) → y ≠ 158 → y ≠ 159 → s1 y = st y := fun y p q r s => (hcn y p q).trans (f2 y r (by omega))
    obtain ⟨V, hV⟩ : ∃ V, V = st 168 20 + K := ⟨_, rfl⟩
    obtain ⟨b0, hb0⟩ : ∃ b0, b0 = z_up (q_od s1) 199 0 V := ⟨_, rfl⟩
    have hb : ∀ y, 168 ≤ y → y ≠ 199 → b0 y = st y := fun y p q => by
      rw [hb0, q_up_row q, q_od_row (by omega)]; exact c9 y (by omega) (by omega) (by omega) (by omega)
    have hSb : q_same g b0 := ⟨fun y p q => (hb y (by omega) (by omega)).trans (h.1.1 y p q), fun j p q => by rw [hb 168 (by decide) (by decide)]; exact h.1.2 j p q⟩
    obtain ⟨⟨mm, b1⟩, g1, g2, g3⟩ := s_X12_apart (n := x) (id := 186) hSb hB.2.2.2.2.1 (Or.inl rfl) zx
    dsimp only at g2 g3
    rcases g3 with ⟨_, g4, g5⟩ | ⟨g4, _⟩
    · subst g4
      obtain ⟨b2, hb2⟩ : ∃ b2, b2 = z_up b1 168 0 0 := ⟨_, rfl⟩
      have hb2r : ∀ y, 169 ≤ y → y ≤ 182 → b2 y = st y := fun y p q => by rw [hb2, q_up_row (by omega), g2 y (by omega), hb y (by omega) (by omega)]
      have hb2j : ∀ j, 1 ≤ j → b2 168 j = st 168 j := fun j p => by rw [hb2, q_up_ne (by omega), g2 168 (by decide), hb 168 (by decide) (by decide)]
      have hloopR := s_learn_r (b := b2) (by omega) hrow (fun k p q => by rw [hb2, q_up_row (by decide)]; exact g5 k p q)
      obtain ⟨s2, hs2⟩ : ∃ s2, s2 = q_rn x b2 K := ⟨_, rfl⟩
      rw [← hK, ← hs2] at hloopR
      have hrn := q_rn_row (n := x) (g := b2) (k := K)
      rw [← hs2] at hrn
      have hG6 : q_G6 b2 st4 := k_6 hG.2.2.2.2.2 ⟨hb2j 20 (by decide), hb2j 21 (by decide), hb2j 22 (by decide)⟩ (hb2r 182 (by decide) (by decide)) (by rw [f2 89 (by decide) (by decide)]; exact ⟨rfl, rfl, rfl⟩) (fun y p q => f2 y (by omega) (by omega))
      have e20 := hb2j 20 (by decide)
      have hG6n := q_G6_n (g0 := g) hG6 (by omega) hrow (k := K) (by omega) (by omega)
      rw [← hs1, ← hs2] at hG6n
      have v20 : s2 168 20 = V := by rw [hrn.2.2, e20, hV]
      have v89 : s1 89 3 = V := by rw [← v20]; exact hG6n.2.1
      have hL : J_L_learn x st = some (0, z_up (q_od s1) 199 0 V) := by
        have : J_X11_learn x st = some (.inl (V, q_od s1)) := by
          unfold J_X11_learn
          rw [q_xs (hck.1 hrow)]
          refine q_of ?_
          simp only [q_g, q_b, q_let, q_ite, q_some, z32, z64, true_or, or_true, true_and, and_true]
          refine q_eq f1 (q_eq hloopC (q_eq s_outdate ?_))
          rw [q_od_row (by omega), v89]
        unfold J_L_learn
        rw [this]
        show z_g (z32 V) _ = _
        unfold z_g
        rw [if_pos (show z32 V from ⟨by omega, by omega⟩)]
      have hR : J_X12_learn x (z_up (q_od s1) 199 0 V) = some (V, s2) := by
        rw [← hb0]
        refine q_of ?_
        simp only [J_X12_learn, q_g, q_b, q_let, q_ite, q_some, z32, z64, true_or, or_true, true_and, and_true]
        refine q_eq g1 ?_
        dsimp only
        refine ⟨by omega, fun _ => ?_, fun h9 => by omega⟩
        simp only [J_X12_learn_20, q_g, q_b, q_let, q_ite, q_some, z32, z64, true_or, or_true, true_and, and_true]
        refine q_eq s_holds_0 ?_
        dsimp only
        rw [← hb2]
        refine ⟨by decide, fun _ => q_eq hloopR ?_, fun h9 => by first | exact absurd rfl h9 | exact absurd trivial h9⟩
        rw [v20]
      refine j_new h hL ⟨by omega, by omega⟩ hR ?_ ?_ ⟨?_, ?_⟩ (q_GG_b6 hG ?_ ?_ ?_ hG6n) ?_
      · rw [hrn.2.1 0 (by decide), hb2, z_up_at]
      · intro y hy
        rw [hrn.1 y (by omega) (by omega), hb2, q_up_row (by omega), g2 y (by omega), hb0]
      · rw [c9 134 (by decide) (by decide) (by decide) (by decide)]
      · rw [c9 134 (by decide) (by decide) (by decide) (by decide)]
      · intro j p q r; rw [hrn.2.1 j r]; exact hb2j j p
      · intro y p q; rw [hrn.1 y (by omega) (by omega)]; exact hb2r y p (by omega)
      · intro y p q; exact c9 y (by omega) (by omega) (by omega) (by omega)
      · omega
    · exact absurd hrow g4
  · refine q_out_0 (j_I (code := 1) (val := 0) (by decide) (fun h9 => absurd h9 (by decide)) (l_nI h (by decide) ?_) (fun s hs => ?_))
    · unfold J_L_learn J_X11_learn
      rw [q_xe (hck.2 hrow)]
      rfl
    · simp only [J_X12_learn, q_g, q_b, q_let, q_ite, q_some, z32, z64, true_or, or_true, true_and, and_true]
      refine q_mono (s_X12_apart hs.1 hB.2.2.2.2.1 (Or.inl rfl) zx) ?_
      rintro ⟨mm, s1⟩ ⟨g2, g3⟩
      dsimp only at g2 g3 ⊢
      rcases g3 with ⟨g4, _⟩ | ⟨_, g4⟩
      · exact absurd g4 hrow
      · subst g4
        refine ⟨by decide, fun h9 => by omega, fun _ => ?_⟩
        simp only [J_X12_learn_20, q_g, q_b, q_let, q_ite, q_some, z32, z64, true_or, or_true, true_and, and_true]
        refine q_eq (s_holds_p (by decide)) ?_
        dsimp only
        refine ⟨by decide, fun h9 => absurd h9 (by decide), fun _ => ⟨q_K_of hs.1 (fun y p => ?_) (fun j p q => ?_), z_up_at, fun h9 => absurd h9 (by decide)⟩⟩
        · rw [q_up_row (by omega), g2 y (by omega)]
        · rw [z_up_n (by omega), g2 168 (by decide)]
