-- word, saying
def q_ays (st : z_St) (w x n k : Int) : z_St := z_up (z_up (z_up (z_up (z_cpy st 28 (59 + 3 * (2 * w + k) + 1) n) (59 + 3 * (2 * w + k)) 2 n) (59 + 3 * (2 * w + k)) 3 x) 27 w (k + 1)) 24 6 0
theorem q_ays_spec {st : z_St} {w x n k : Int} (hw : 0 ≤ w ∧ w < 5) (hk1 : 0 ≤ k ∧ k ≤ 1) : (∀ y, y ≠ 24 → y ≠ 27 → ¬ (59 ≤ y ∧ y ≤ 88) → q_ays st w x n k y = st y) ∧ (∀ j, j ≠ 6 → q_ays st w x n k 24 j = st 24 j) ∧ q_ays st w x n k 24 6 = 0 ∧ (∀ v, q_ays st w x n k 27 v = if v = w then k + 1 else st 27 v) ∧ ∀ j, 0 ≤ j → j < 10 → q_ays st w x n k (59 + 3 * j) 2 = (if j = 2 * w + k then n else st (59 + 3 * j) 2) ∧ q_ays st w x n k (59 + 3 * j) 3 = (if j = 2 * w + k then x else st (59 + 3 * j) 3) ∧ ∀ p, 0 ≤ p → p < 4 → q_ays st w x n k (59 + 3 * j + 1) p = if j = 2 * w + k ∧ p < n then st 28 p else st (59 + 3 * j + 1) p := by
  unfold q_ays
  refine ⟨fun y a b c => ?_, fun j hj => ?_, z_up_at, fun v => ?_, fun j a b => ⟨?_, ?_, fun p c d => ?_⟩⟩
  · rw [q_up_row a, q_up_row b, q_up_row (by omega), q_up_row (by omega), q_cpy_row (by omega)]
  · rw [q_up_ne hj, q_up_row (by decide), q_up_row (by omega), q_up_row (by omega), q_cpy_row (by omega)]
  · rw [q_up_row (by decide), q_up_at, q_up_row (by omega), q_up_row (by omega), q_cpy_row (by omega)]
  · rw [q_up_row (by omega), q_up_row (by omega)]
    by_cases e : j = 2 * w + k
    · subst e; rw [if_pos rfl, q_up_ne (by decide), z_up_at]
    · rw [if_neg e, q_up_row (by omega), q_up_row (by omega), q_cpy_row (by omega)]
  · rw [q_up_row (by omega), q_up_row (by omega)]
    by_cases e : j = 2 * w + k
    · subst e; rw [if_pos rfl, z_up_at]
    · rw [if_neg e, q_up_row (by omega), q_up_row (by omega), q_cpy_row (by omega)]
  · rw [q_up_row (by omega), q_up_row (by omega), q_up_row (by omega), q_up_row (by omega)]
    by_cases e : j = 2 * w + k
    · subst e
      rw [q_cpy_at]
      by_cases e2 : p < n
      · rw [if_pos ⟨c, e2⟩, if_pos ⟨rfl, e2⟩]
      · rw [if_neg (fun h9 => e2 h9.2), if_neg (fun h9 => e2 h9.2)]
    · rw [q_cpy_row (by omega), if_neg (fun h9 => e h9.1)]
/-- both sides behind a new SAYING -/
theorem q_GG_says {st c t0 s2 : z_St} {w x n k W val : Int} (hG : q_GG st st) (hw : 0 ≤ w ∧ w < 5) (hx : 0 ≤ x ∧ x ≤ 9999) (hn : st 168 13 = n) (hk : st 178 w = k) (hk1 : 0 ≤ k ∧ k ≤ 1) (hcan : q_can st) (hW : (W = st 168 18 ∧ w < W) ∨ (w = st 168 18 ∧ W = w + 1)) (hc : ∀ y, y ≠ 24 → c y = q_ays st w x n k y) (hc24 : ∀ j, j ≠ 4 → c 24 j = q_ays st w x n k 24 j) (hc4 : c 24 4 = W) (ht : ∀ y, 169 ≤ y → y ≤ 182 → t0 y = st y) (ht8 : ∀ j, 1 ≤ j → j ≤ 22 → j ≠ 18 → t0 168 j = st 168 j) (ht18 : t0 168 18 = W) (hs : q_saidS t0 s2 w x n k) (hv : val = val) : q_GG s2 c := by
  obtain ⟨a1, a2, a3, a4, a5⟩ := q_ays_spec (st := st) (w := w) (x := x) (n := n) (k := k) hw hk1
  obtain ⟨b1, b2, b3, b4, b5, b6, b7⟩ := hs
  have c9 : ∀ y, y ≠ 24 → y ≠ 27 → ¬ (59 ≤ y ∧ y ≤ 88) → c y = st y := fun y p q r => (hc y p).trans (a1 y p q r)
  have r9 : ∀ y, 169 ≤ y → y ≤ 182 → y ≠ 178 → y ≠ 179 → y ≠ 180 → y ≠ 181 → s2 y = st y := fun y p q r s t u => (b1 y r s t u (by omega)).trans (ht y p q)
  have j9 : ∀ j, 1 ≤ j → j ≤ 22 → j ≠ 13 → j ≠ 18 → s2 168 j = st 168 j := fun j p q r s => (b2 j r).trans (ht8 j p q s)
  obtain ⟨h1, h2, h3, h4, h5, h6⟩ := hG
  refine ⟨?_, ?_, ?_, ?_, ?_, ?_⟩
  · exact k_1 h1 (j9 2 (by decide) (by decide) (by decide) (by decide)) (r9 169 (by decide) (by decide) (by decide) (by decide) (by decide) (by decide)) (by rw [c9 1 (by decide) (by decide) (by decide)]) (fun y p q => c9 y (by omega) (by omega) (by omega))
  · exact k_2 h2 (j9 4 (by decide) (by decide) (by decide) (by decide)) (r9 170 (by decide) (by decide) (by decide) (by decide) (by decide) (by decide)) (by rw [c9 1 (by decide) (by decide) (by decide)]) (fun y p q => c9 y (by omega) (by omega) (by omega))
  · exact k_3 h3 (j9 11 (by decide) (by decide) (by decide) (by decide)) (fun y p q => r9 y (by omega) (by omega) (by omega) (by omega) (by omega) (by omega)) (by rw [hc24 1 (by decide), a2 1 (by decide)]) (fun y p q => c9 y (by omega) (by omega) (by omega))
  · obtain ⟨⟨t1, t2⟩, u1, u2⟩ := h4
    refine ⟨⟨by rw [b3]; decide, by rw [r9 177 (by decide) (by decide) (by decide) (by decide) (by decide) (by decide)]; exact t2⟩, by rw [hc24 6 (by decide), a3, b3], by rw [c9 28 (by decide) (by decide) (by decide), r9 177 (by decide) (by decide) (by decide) (by decide) (by decide) (by decide)]; exact u2⟩
  · refine q_G5_says h5 h4 hw hx hn hk hk1 hcan hW ?_ (j9 11 (by decide) (by decide) (by decide) (by decide)) ?_ ?_ ?_ ?_ hc4 (fun v => by rw [hc 27 (by decide)]; exact a4 v) (fun j p q => ?_)
    · rw [b2 18 (by decide), ht18]
    · intro v; rw [b4, ht 178 (by decide) (by decide)]
    · intro j; rw [b5, ht 179 (by decide) (by decide)]
    · intro j; rw [b6, ht 181 (by decide) (by decide)]
    · intro q; rw [b7, ht 180 (by decide) (by decide), ht 177 (by decide) (by decide)]
    · have := a5 j p q
      rw [hc (59 + 3 * j) (by omega), hc (59 + 3 * j + 1) (by omega)]
      exact this
  · exact k_6 h6 ⟨j9 20 (by decide) (by decide) (by decide) (by decide), j9 21 (by decide) (by decide) (by decide) (by decide), j9 22 (by decide) (by decide) (by decide) (by decide)⟩ (r9 182 (by decide) (by decide) (by decide) (by decide) (by decide) (by decide)) (by rw [c9 89 (by decide) (by decide) (by decide)]; exact ⟨rfl, rfl, rfl⟩) (fun y p q => c9 y (by omega) (by omega) (by omega))
theorem q_can_c {g g' : z_St} (a : g' 168 13 = g 168 13) (b : g' 177 = g 177) (c : g' 168 11 = g 168 11) : q_can g' ↔ q_can g := by unfold q_can; rw [a, b, c]
theorem j_9 {g st : z_St} {f : Int → Int} {i : Int} (h : q_INV g st) (hf : ∀ j, z32 (f j)) : q_ok (JL_9 f i st) (q_out g) := by
  have hB := h.2.1
  have hC := h.2.2.1
  have ht1 := hB.2.2.2.1.1
  have hw1 := hB.2.2.2.2.1.1
  have e246 := hC.2.2.2.1.1
  have e244 := hC.2.2.2.2.1.1
  obtain ⟨x, hx⟩ : ∃ x, f (i + 1) = x := ⟨_, rfl⟩
  have zx : z32 x := hx ▸ hf (i + 1)
  have yx : -2147483648 ≤ x ∧ x ≤ 2147483647 := zx
  unfold JL_9
  rw [hx]
  obtain ⟨m, hm⟩ : ∃ m, g 168 18 = m := ⟨_, rfl⟩
  obtain ⟨n, hn⟩ : ∃ n, g 168 13 = n := ⟨_, rfl⟩
  have hk0 : m < 5 → g 178 m = 0 := fun h9 => hB.2.2.2.2.1.2.2.2.1 m (by omega) h9
  rw [hm] at e244 hw1
  rw [hn] at e246 ht1
  have bad : ∀ (s : z_St) (s0 : Int), 0 < s0 ∧ s0 < 10 → J_X12_word_38 x s0 s = some (-1, z_up s 168 0 s0) := fun s s0 hs => by
    refine q_of ?_
    simp only [J_X12_word_38, q_g, q_b, q_let, q_ite, q_some, z32, z64, true_or, or_true, true_and, and_true]
    refine q_eq (s_holds_p hs) ?_
    dsimp only
    exact ⟨by decide, fun h9 => absurd h9 (by decide), fun _ => rfl⟩
  by_cases c : 0 ≤ x ∧ x ≤ 9999
  · by_cases c2 : q_can g ∧ m < 5
    · obtain ⟨hG, h20⟩ := q_GG_self h
      have hs18 : st 168 18 = m := by rw [← hm]; exact h.1.2 18 (by decide) (by decide)
      have hs13 : st 168 13 = n := by rw [← hn]; exact h.1.2 13 (by decide) (by decide)
      have hs178 : st 178 m = 0 := by rw [h.1.1 178 (by decide) (by decide)]; exact hk0 c2.2
      have hs27 : st 27 m = 0 := by rw [hC.2.2.2.2.1.2.1 m (by omega) (by omega)]; exact hk0 c2.2
      have hcan : q_can st := (q_can_c (h.1.2 13 (by decide) (by decide)) (h.1.1 177 (by decide) (by decide)) (h.1.2 11 (by decide) (by decide))).mpr c2.1
      obtain ⟨a1, a2, a3, a4, a5⟩ := q_ays_spec (st := st) (w := m) (x := x) (n := n) (k := 0) (by omega) (by omega)
      obtain ⟨s1, hs1⟩ : ∃ s1, s1 = z_up (q_ays st m x n 0) 24 4 (m + 1) := ⟨_, rfl⟩
      have hL : J_L_word x st = some (0, z_up (q_od s1) 199 0 m) := by
        have : J_X11_word x st = some (.inl (m, q_od s1)) := by
          unfold J_X11_word
          rw [q_xs (s_range_y ⟨zx, by decide, by decide⟩ c)]
          refine q_of ?_
          simp only [q_g, q_b, q_let, q_ite, q_some, z32, z64, true_or, or_true, true_and, and_true]
          refine q_mono (s_X4_textCanBeSaid hC hB) ?_
          intro r hr
          rcases hr with ⟨_, hr⟩ | ⟨rfl, _⟩
          · exact absurd c2.1 hr
          rw [e244]
          refine ⟨by decide, fun h9 => by omega, fun _ => ⟨by omega, fun _ => ?_, fun h9 => by omega⟩⟩
          refine q_eq (s_X4_addSaying (n := n) (k := 0) (by omega) hs27 (by decide) e246 (by omega)) ?_
          show q_ok (z_b (J_X11_outdate (z_up (q_ays st m x n 0) 24 4 (q_ays st m x n 0 24 4 + 1))) _) _
          rw [a2 4 (by decide), e244, ← hs1, q_b]
          refine q_eq s_outdate ?_
          rw [q_some]
          have : q_od s1 24 4 = m + 1 := by rw [hs1, q_od_row (by omega), z_up_at]
          rw [this, show m + 1 - 1 = m by omega]
        unfold J_L_word
        rw [this]
        show z_g (z32 m) _ = _
        unfold z_g
        rw [if_pos (show z32 m from ⟨by omega, by omega⟩)]
      have hb : ∀ y, 168 ≤ y → y ≠ 199 → z_up (q_od s1) 199 0 m y = st y := fun y p q => by
        rw [q_up_row q, q_od_row (by omega), hs1, q_up_row (by omega), a1 y (by omega) (by omega) (by omega)]
      obtain ⟨b0, hb0⟩ : ∃ b0, b0 = z_up (q_od s1) 199 0 m := ⟨_, rfl⟩
      rw [← hb0] at hb
      obtain ⟨t0, ht0⟩ : ∃ t0, t0 = z_up (z_up b0 168 0 0) 168 18 (m + 1) := ⟨_, rfl⟩
      have ht : ∀ y, 169 ≤ y → y ≤ 182 → t0 y = st y := fun y p q => by rw [ht0, q_up_row (by omega), q_up_row (by omega)]; exact hb y (by omega) (by omega)
      have ht8 : ∀ j, 1 ≤ j → j ≤ 22 → j ≠ 18 → t0 168 j = st 168 j := fun j p q r => by rw [ht0, q_up_ne r, q_up_ne (by omega), hb 168 (by decide) (by decide)]
      have ht18 : t0 168 18 = m + 1 := by rw [ht0, z_up_at]
      obtain ⟨r, hr1, hr2, hr3⟩ := s_X12_says (st := t0) (w := m) (x := x) (n := n) (k := 0) (by omega) (by rw [ht 178 (by decide) (by decide)]; exact hs178) (by decide) (by rw [ht8 13 (by decide) (by decide) (by decide)]; exact hs13) (by omega)
      have hR : J_X12_word x b0 = some (m, r.2) := by
        have hSb : q_same g b0 := ⟨fun y p q => (hb y (by omega) (by omega)).trans (h.1.1 y p q), fun j p q => by rw [hb 168 (by decide) (by decide)]; exact h.1.2 j p q⟩
        refine q_of ?_
        simp only [J_X12_word, q_g, q_b, q_let, q_ite, q_some, z32, z64, true_or, or_true, true_and, and_true]
        refine ⟨by omega, q_eq (s_X12_in (by omega)) ?_⟩
        unfold q_in
        rw [if_pos c]
        refine ⟨by decide, fun h9 => by omega, fun _ => ?_⟩
        refine q_mono (s_X12_isSaid hSb hB) ?_
        intro r9 hr9
        rcases hr9 with ⟨_, hr9⟩ | ⟨rfl, _⟩
        · exact absurd c2.1 hr9
        rw [hb 168 (by decide) (by decide), hs18]
        refine ⟨by decide, fun h9 => by omega, fun _ => ⟨by omega, fun h9 => by omega, fun _ => ?_⟩⟩
        simp only [J_X12_word_38, q_g, q_b, q_let, q_ite, q_some, z32, z64, true_or, or_true, true_and, and_true]
        refine q_eq s_holds_0 ?_
        dsimp only
        have e18 : z_up b0 168 0 0 168 18 = m := by rw [q_up_ne (by decide), hb 168 (by decide) (by decide)]; exact hs18
        rw [e18, ← ht0, ht18, show m + 1 - 1 = m by omega]
        refine ⟨by decide, fun _ => q_eq hr1 ?_, fun h9 => by first | exact absurd rfl h9 | exact absurd trivial h9⟩
        rw [hr3.2.1 18 (by decide), ht18, show m + 1 - 1 = m by omega]
      rw [hb0] at hR
      refine j_new h hL ⟨by omega, by omega⟩ hR ?_ ?_ ⟨?_, ?_⟩ (q_GG_says (W := m + 1) (val := 0) hG (by omega) c hs13 hs178 (by decide) hcan (Or.inr ⟨hs18.symm, rfl⟩) ?_ ?_ ?_ ht ht8 ht18 hr3 rfl) ?_
      · rw [hr3.2.1 0 (by decide), ht0, q_up_ne (by decide), z_up_at]
      · intro y hy
        rw [hr3.1 y (by omega) (by omega) (by omega) (by omega) (by omega), ht0, q_up_row (by omega), q_up_row (by omega), hb0]
      · rw [hs1, q_up_row (by decide), a1 134 (by decide) (by decide) (by decide)]
      · rw [hs1, q_up_row (by decide), a1 134 (by decide) (by decide) (by decide)]
      · intro y hy; rw [hs1, q_up_row hy]
      · intro j hj; rw [hs1, q_up_ne hj]
      · rw [hs1, z_up_at]
      · rw [hr3.2.1 20 (by decide), ht8 20 (by decide) (by decide) (by decide)]; omega
    · refine q_out_0 (j_I (code := 2) (val := 0) (by decide) (fun h9 => absurd h9 (by decide)) (l_n (X := J_X11_word x st) (e := 2) (by decide) ?_ (fun q he hq => by unfold J_L_word; rw [hq]; simp only [he]; rfl)) (fun s hs => ?_))
      · unfold J_X11_word
        refine q_xl (s_range_y ⟨zx, by decide, by decide⟩ c) ?_
        simp only [J_X11_word_29, q_g, q_b, q_let, q_ite, q_some, z32, z64, true_or, or_true, true_and, and_true]
        refine q_mono (s_X4_textCanBeSaid hC hB) ?_
        intro r hr
        rw [e244]
        rcases hr with ⟨rfl, hr⟩ | ⟨rfl, hr⟩
        · exact ⟨by decide, fun _ => ⟨_, rfl, h, rfl⟩, fun h9 => by first | exact absurd rfl h9 | exact absurd trivial h9⟩
        · exact ⟨by decide, fun h9 => by omega, fun _ => ⟨by omega, fun h9 => absurd ⟨hr, h9⟩ c2, fun _ => ⟨_, rfl, h, rfl⟩⟩⟩
      · have e18 := hs.1.2 18 (by decide) (by decide)
        simp only [J_X12_word, J_X12_word_33, q_g, q_b, q_let, q_ite, q_some, z32, z64, true_or, or_true, true_and, and_true]
        refine ⟨by omega, q_eq (s_X12_in (by omega)) ?_⟩
        unfold q_in
        rw [if_pos c]
        refine ⟨by decide, fun h9 => by omega, fun _ => ?_⟩
        refine q_mono (s_X12_isSaid hs.1 hB) ?_
        intro r hr
        rw [e18, hm, bad s 2 (by decide)]
        have fin : q_ok (some ((-1 : Int), z_up s 168 0 2)) (fun q => q_K g s q.2 ∧ q.2 168 0 = 2 ∧ ((2 : Int) = 0 → q.1 = 0)) := ⟨_, rfl, q_bad hs.1, (by dsimp only; exact z_up_at), fun h9 => absurd h9 (by decide)⟩
        rcases hr with ⟨rfl, hr⟩ | ⟨rfl, hr⟩
        · exact ⟨by decide, fun _ => fin, fun h9 => by first | exact absurd rfl h9 | exact absurd trivial h9⟩
        · exact ⟨by decide, fun h9 => by omega, fun _ => ⟨by omega, fun _ => fin, fun h9 => absurd ⟨hr, by omega⟩ c2⟩⟩
  · refine q_out_0 (j_I (code := 1) (val := 0) (by decide) (fun h9 => absurd h9 (by decide)) (l_nI h (by decide) ?_) (fun s hs => ?_))
    · unfold J_L_word J_X11_word
      rw [q_xe (s_range_n ⟨zx, by decide, by decide⟩ c)]
      rfl
    · simp only [J_X12_word, q_g, q_b, q_let, q_ite, q_some, z32, z64, true_or, or_true, true_and, and_true]
      refine ⟨by omega, q_eq (s_X12_in (by omega)) ?_⟩
      unfold q_in
      rw [if_neg c, bad s 1 (by decide)]
      exact ⟨by decide, fun _ => ⟨_, rfl, q_bad hs.1, (by dsimp only; exact z_up_at), fun h9 => absurd h9 (by decide)⟩, fun h9 => by first | exact absurd rfl h9 | exact absurd trivial h9⟩
