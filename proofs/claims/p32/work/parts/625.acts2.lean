-- WHAT CHANGES THE CLASS: word, saying, learn, silence
theorem rfs_no {g : z_St} {X : Option (z_R (Int × z_St))} {F : Int × z_St → Option (Int × z_St)} {e : Nat} (he : e = 1 ∨ e = 2 ∨ e = 3) (h : q_no g X e) : q_ok (z_xd X F) (q_rfs g) := by
  obtain ⟨r, h1, ⟨e9, s⟩, rfl, h2, h3⟩ := h
  dsimp only at h2 h3
  subst h3
  exact rfs_of he h1 h2
theorem d_word {g st : z_St} (h : q_INV g st) {x b c d : Int} (zx : z32 x) : ((0 ≤ x ∧ x ≤ 9999) ∧ q_can g ∧ g 168 18 < 5 → q_ok (J_L_does 6 x b c d st) (q_acc (g 168 18) (z_up (q_ays st (g 168 18) x (g 168 13) 0) 24 4 (g 168 18 + 1)))) ∧ (¬ ((0 ≤ x ∧ x ≤ 9999) ∧ q_can g ∧ g 168 18 < 5) → q_ok (J_L_does 6 x b c d st) (q_rfs g)) := by
  have hB := h.2.1
  have hC := h.2.2.1
  have ht1 := hB.2.2.2.1.1
  have hw1 := hB.2.2.2.2.1.1
  have e246 := hC.2.2.2.1.1
  have e244 := hC.2.2.2.2.1.1
  have yx : -2147483648 ≤ x ∧ x ≤ 2147483647 := zx
  obtain ⟨m, hm⟩ : ∃ m, g 168 18 = m := ⟨_, rfl⟩
  obtain ⟨n, hn⟩ : ∃ n, g 168 13 = n := ⟨_, rfl⟩
  have hk0 : m < 5 → g 178 m = 0 := fun h9 => hB.2.2.2.2.1.2.2.2.1 m (by omega) h9
  rw [hm] at e244 hw1
  rw [hn] at e246 ht1
  rw [hm, hn]
  refine ⟨fun hc => ?_, fun hc => ?_⟩
  · obtain ⟨c, c2⟩ := hc
    have hs27 : st 27 m = 0 := by rw [hC.2.2.2.2.1.2.1 m (by omega) (by omega)]; exact hk0 c2.2
    obtain ⟨a1, a2, a3, a4, a5⟩ := q_ays_spec (st := st) (w := m) (x := x) (n := n) (k := 0) (by omega) (by omega)
    obtain ⟨s1, hs1⟩ : ∃ s1, s1 = z_up (q_ays st m x n 0) 24 4 (m + 1) := ⟨_, rfl⟩
    rw [← hs1]
    have hX : J_X11_word x st = some (.inl (m, q_od s1)) := by
      unfold J_X11_word
      rw [q_xs (s_range_y ⟨zx, by decide, by decide⟩ c)]
      refine q_of ?_
      simp only [q_g, q_b, q_let, q_ite, q_some, z32, z64, true_or, or_true, true_and, and_true]
      refine q_mono (s_X4_textCanBeSaid hC hB) ?_
      intro r hr
      rcases hr with ⟨_, hr⟩ | ⟨rfl, _⟩
      · exact absurd c2.1 hr
      rw [e244]
      refine ⟨by decide, fun h9 => by omega, fun _ => ⟨by omega, fun _ => ?_, fun h9 => by omega⟩⟩
      refine q_eq (s_X4_addSaying (n := n) (k := 0) (by omega) hs27 (by decide) e246 (by omega)) ?_
      show q_ok (z_b (J_X11_outdate (z_up (q_ays st m x n 0) 24 4 (q_ays st m x n 0 24 4 + 1))) _) _
      rw [a2 4 (by decide), e244, ← hs1, q_b]
      refine q_eq s_outdate ?_
      rw [q_some]
      have : q_od s1 24 4 = m + 1 := by rw [hs1, q_od_row (by omega), z_up_at]
      rw [this, show m + 1 - 1 = m by omega]
    have hL : J_L_word x st = some (0, z_up (q_od s1) 199 0 m) := by
      unfold J_L_word
      rw [hX]
      show z_g (z32 m) _ = _
      rw [z_g_pos (show z32 m from ⟨by omega, by omega⟩)]
    have hj := j_9 (f := q_f4 x 0 0 0) (i := 0) h (q_f4_32 zx (by decide) (by decide) (by decide))
    unfold JL_9 at hj
    exact acc_of hX ⟨by omega, by omega⟩ (m_of (p := (m, _)) hj F_th (fun s => lw_word) hL) od_same
  · show q_ok (z_xd (J_X11_word x st) _) _
    by_cases c : 0 ≤ x ∧ x ≤ 9999
    · refine rfs_no (e := 2) (by decide) ?_
      have c2 : ¬ (q_can g ∧ m < 5) := fun h9 => hc ⟨c, h9⟩
      unfold J_X11_word
      refine q_xl (s_range_y ⟨zx, by decide, by decide⟩ c) ?_
      simp only [J_X11_word_29, q_g, q_b, q_let, q_ite, q_some, z32, z64, true_or, or_true, true_and, and_true]
      refine q_mono (s_X4_textCanBeSaid hC hB) ?_
      intro r hr
      rw [e244]
      rcases hr with ⟨rfl, hr⟩ | ⟨rfl, hr⟩
      · exact ⟨by decide, fun _ => ⟨_, rfl, h, rfl⟩, fun h9 => by first | exact absurd rfl h9 | exact absurd trivial h9⟩
      · exact ⟨by decide, fun h9 => by omega, fun _ => ⟨by omega, fun h9 => absurd ⟨hr, h9⟩ c2, fun _ => ⟨_, rfl, h, rfl⟩⟩⟩
    · refine rfs_of (e := 1) (by decide) (s := st) ?_ h
      unfold J_X11_word
      rw [q_xe (s_range_n ⟨zx, by decide, by decide⟩ c)]
theorem d_saying {g st : z_St} (h : q_INV g st) {w x c0 d : Int} (zw : z32 w) (zx : z32 x) : ((0 ≤ w ∧ w < g 168 18) ∧ (0 ≤ x ∧ x ≤ 9999) ∧ q_can g ∧ g 178 w < 2 → q_ok (J_L_does 7 w x c0 d st) (q_acc (g 168 13) (q_ays st w x (g 168 13) (g 178 w)))) ∧ (¬ ((0 ≤ w ∧ w < g 168 18) ∧ (0 ≤ x ∧ x ≤ 9999) ∧ q_can g ∧ g 178 w < 2) → q_ok (J_L_does 7 w x c0 d st) (q_rfs g)) := by
  have hB := h.2.1
  have hC := h.2.2.1
  have ht1 := hB.2.2.2.1.1
  have hw1 := hB.2.2.2.2.1.1
  have e246 := hC.2.2.2.1.1
  have e244 := hC.2.2.2.2.1.1
  have yw : -2147483648 ≤ w ∧ w ≤ 2147483647 := zw
  have yx : -2147483648 ≤ x ∧ x ≤ 2147483647 := zx
  obtain ⟨m, hm⟩ : ∃ m, g 168 18 = m := ⟨_, rfl⟩
  obtain ⟨n, hn⟩ : ∃ n, g 168 13 = n := ⟨_, rfl⟩
  rw [hm] at e244 hw1
  rw [hn] at e246 ht1
  rw [hm, hn]
  have z4 : z32 w ∧ z32 (st 24 4) := ⟨zw, by rw [e244]; exact ⟨by omega, by omega⟩⟩
  by_cases c1 : 0 ≤ w ∧ w < m
  · have hk := hB.2.2.2.2.1.2.1 w (by omega) (by omega)
    have hk27 := hC.2.2.2.2.1.2.1 w (by omega) (by omega)
    obtain ⟨k, hk9⟩ : ∃ k, g 178 w = k := ⟨_, rfl⟩
    rw [hk9] at hk hk27
    rw [hk9]
    refine ⟨fun hc => ?_, fun hc => ?_⟩
    · obtain ⟨_, c, c2⟩ := hc
      obtain ⟨s1, hs1⟩ : ∃ s1, s1 = q_ays st w x n k := ⟨_, rfl⟩
      rw [← hs1]
      have hX : J_X11_saying w x st = some (.inl (n, q_od s1)) := by
        unfold J_X11_saying
        rw [q_xs (s_index_y z4 (by rw [e244]; exact c1)), q_xs (s_range_y ⟨zx, by decide, by decide⟩ c)]
        refine q_of ?_
        simp only [q_g, q_b, q_let, q_ite, q_some, z32, z64, true_or, or_true, true_and, and_true]
        refine q_mono (s_X4_textCanBeSaid hC hB) ?_
        intro r hr
        rcases hr with ⟨_, hr⟩ | ⟨rfl, _⟩
        · exact absurd c2.1 hr
        rw [hk27]
        refine ⟨by decide, fun h9 => by omega, fun _ => ⟨by omega, by omega, fun _ => ?_, fun h9 => by omega⟩⟩
        refine q_eq (s_X4_addSaying (n := n) (k := k) (by omega) hk27 (by omega) e246 (by omega)) ?_
        show q_ok (z_b (J_X11_outdate (q_ays st w x n k)) _) _
        rw [← hs1, q_b]
        refine q_eq s_outdate ?_
        rw [q_some, e246]
      have hL : J_L_saying w x st = some (0, z_up (q_od s1) 199 0 n) := by
        unfold J_L_saying
        rw [hX]
        show z_g (z32 n) _ = _
        rw [z_g_pos (show z32 n from ⟨by omega, by omega⟩)]
      have hj := j_10 (f := q_f4 w x 0 0) (i := 0) h (q_f4_32 zw zx (by decide) (by decide))
      unfold JL_10 at hj
      exact acc_of hX ⟨by omega, by omega⟩ (m_of (p := (n, _)) hj F_th (fun s => lw_saying) hL) od_same
    · show q_ok (z_xd (J_X11_saying w x st) _) _
      by_cases c : 0 ≤ x ∧ x ≤ 9999
      · refine rfs_no (e := 2) (by decide) ?_
        have c2 : ¬ (q_can g ∧ k < 2) := fun h9 => hc ⟨c1, c, h9⟩
        unfold J_X11_saying
        refine q_xl (s_index_y z4 (by rw [e244]; exact c1)) ?_
        refine q_xl (s_range_y ⟨zx, by decide, by decide⟩ c) ?_
        simp only [J_X11_saying_42, q_g, q_b, q_let, q_ite, q_some, z32, z64, true_or, or_true, true_and, and_true]
        refine q_mono (s_X4_textCanBeSaid hC hB) ?_
        intro r hr
        rw [hk27]
        rcases hr with ⟨rfl, hr⟩ | ⟨rfl, hr⟩
        · exact ⟨by decide, fun _ => ⟨_, rfl, h, rfl⟩, fun h9 => by first | exact absurd rfl h9 | exact absurd trivial h9⟩
        · exact ⟨by decide, fun h9 => by omega, fun _ => ⟨by omega, by omega, fun h9 => absurd ⟨hr, h9⟩ c2, fun _ => ⟨_, rfl, h, rfl⟩⟩⟩
      · refine rfs_of (e := 1) (by decide) (s := st) ?_ h
        unfold J_X11_saying
        rw [q_xs (s_index_y z4 (by rw [e244]; exact c1)), q_xe (s_range_n ⟨zx, by decide, by decide⟩ c)]
  · refine ⟨fun hc => absurd hc.1 c1, fun _ => rfs_of (e := 3) (by decide) (s := st) ?_ h⟩
    unfold J_X11_saying
    rw [q_xe (s_index_n z4 (by rw [e244]; exact c1))]
/-- an accepted call, what it left as it was told by cells -/
theorem d_learn {g st : z_St} (h : q_INV g st) (hc9 : g 168 20 ≤ 2995) {x b c d : Int} (zx : z32 x) : (q_isRow g x → q_ok (J_L_does 11 x b c d st) (fun r => (0 ≤ r.1 ∧ r.1 ≤ g 168 20 + 5) ∧ (∃ g', q_INV g' r.2) ∧ r.2 89 3 = r.1 ∧ ∀ y, 1 ≤ y → y ≤ 88 → r.2 y = st y)) ∧ (¬ q_isRow g x → q_ok (J_L_does 11 x b c d st) (q_rfs g)) := by
  have hB := h.2.1
  have hC := h.2.2.1
  have hw1 := hB.2.2.2.2.1.1
  have hp1 := hB.2.2.2.2.2.2.1
  have hck := s_checkRow hC hB zx
  have hmx := q_many_bd x
  refine ⟨fun hrow => ?_, fun hrow => ?_⟩
  · have hr1 := hrow.1
    obtain ⟨hG, h20⟩ := q_GG_self h
    obtain ⟨st4, f1, f2, f3, f4⟩ := s_X6_read (id := 158) (n := x) (st0 := st) (by decide) hr1
    obtain ⟨K, hK⟩ : ∃ K, K = (q_many x).toNat + 1 := ⟨_, rfl⟩
    obtain ⟨s1, hs1⟩ : ∃ s1, s1 = q_cn x st4 K := ⟨_, rfl⟩
    have hloopC := s_learn_c (by omega) hrow f4
    rw [← hK, ← hs1] at hloopC
    have hcn := q_cn_row (by omega : g 168 18 ≤ 5) hrow (c := st4) (k := K) (by omega)
    rw [← hs1] at hcn
    have c9 : ∀ y, y ≠ 89 → ¬ (91 ≤ y ∧ y ≤ 98) → y ≠ 158 → y ≠ 159 → s1 y = st y := fun y p q r s => (hcn y p q).trans (f2 y r (by omega))
    obtain ⟨V, hV⟩ : ∃ V, V = st 168 20 + K := ⟨_, rfl⟩
    -- the class's own count
    have hG6 : q_G6 st st4 := k_6 hG.2.2.2.2.2 ⟨rfl, rfl, rfl⟩ rfl (by rw [f2 89 (by decide) (by decide)]; exact ⟨rfl, rfl, rfl⟩) (fun y p q => f2 y (by omega) (by omega))
    have hrn := q_rn_row (n := x) (g := st) (k := K)
    have hG6n := q_G6_n (g0 := g) hG6 (by omega) hrow (k := K) (by omega) (by omega)
    rw [← hs1] at hG6n
    have v89 : s1 89 3 = V := by rw [hG6n.2.1, hrn.2.2, hV]
    have hX : J_X11_learn x st = some (.inl (V, q_od s1)) := by
      unfold J_X11_learn
      rw [q_xs (hck.1 hrow)]
      refine q_of ?_
      simp only [q_g, q_b, q_let, q_ite, q_some, z32, z64, true_or, or_true, true_and, and_true]
      refine q_eq f1 (q_eq hloopC (q_eq s_outdate ?_))
      rw [q_od_row (by omega), v89]
    have hL : J_L_learn x st = some (0, z_up (q_od s1) 199 0 V) := by
      unfold J_L_learn
      rw [hX]
      show z_g (z32 V) _ = _
      rw [z_g_pos (show z32 V from ⟨by omega, by omega⟩)]
    have hj := j_14 (f := q_f4 x 0 0 0) (i := 0) h hc9 (q_f4_32 zx (by decide) (by decide) (by decide))
    unfold JL_14 at hj
    refine q_mono (acc_of hX ⟨by omega, by omega⟩ (m_of (p := (V, _)) hj F_th (fun s => lw_learn) hL) od_same) ?_
    rintro r ⟨b1, b2, b3⟩
    refine ⟨by omega, b2, ?_, fun y p q => ?_⟩
    · rw [b3 89 (by decide) (by decide) (by decide) (by decide) (by decide), v89, b1]
    · rw [b3 y (by omega) (by omega) (by omega) (by omega) (by omega)]
      exact c9 y (by omega) (by omega) (by omega) (by omega)
  · refine rfs_of (e := 1) (by decide) (s := st) ?_ h
    unfold J_X11_learn
    rw [q_xe (hck.2 hrow)]
theorem d_silence {g st : z_St} (h : q_INV g st) : ∃ p, J_X11_silence st = some p ∧ p.1 = g 168 2 ∧ (∃ g', q_INV g' (z_gh p.2)) ∧ ∀ y, y < 168 → y ≠ 99 → y ≠ 134 → y ≠ 144 → y ≠ 148 → z_gh p.2 y = z_up st 1 2 0 y := by
  have e12 := h.2.2.1.1.1
  have hX : J_X11_silence st = some (g 168 2, q_od (z_up st 1 2 0)) := by
    refine q_of ?_
    simp only [J_X11_silence, q_g, q_b, q_let, q_ite, q_some, z32, z64, true_or, or_true, true_and, and_true]
    refine q_eq s_outdate ?_
    rw [e12]
  refine ⟨_, hX, rfl, ?_, fun y a b c d e => (z_gh_low a).trans (od_same y a b c d e)⟩
  obtain ⟨s, e, g', h1, _⟩ := j_1 (f := q_f4 0 0 0 0) (i := 0) h (q_f4_32 (by decide) (by decide) (by decide) (by decide))
  unfold JL_1 at e
  obtain ⟨r, hr, e⟩ := z_b_some e
  rw [hX] at hr
  cases hr
  obtain ⟨q, hq, e⟩ := z_b_some e
  obtain ⟨_, e⟩ := z_g_some e
  cases e
  exact ghost_of h1 (lw_silence q hq)
