-- frame, silence, speak, shift, back, factor
theorem s_X12_frame_n {g s : z_St} (hS : q_same g s) (hB : q_RB g) {x1 x2 x3 : Int} (h1 : z32 x1) (h2 : z32 x2) (h3 : z32 x3) : (¬ ((-30000 ≤ x1 ∧ x1 ≤ 30000) ∧ (-30000 ≤ x2 ∧ x2 ≤ 30000) ∧ (-30000 ≤ x3 ∧ x3 ≤ 30000)) → q_ok (J_X12_frame x1 x2 x3 s) (fun r => q_K g s r.2 ∧ r.2 168 0 = 1)) ∧ ((-30000 ≤ x1 ∧ x1 ≤ 30000) ∧ (-30000 ≤ x2 ∧ x2 ≤ 30000) ∧ (-30000 ≤ x3 ∧ x3 ≤ 30000) → g 168 2 = 16 → q_ok (J_X12_frame x1 x2 x3 s) (fun r => q_K g s r.2 ∧ r.2 168 0 = 2)) := by
  have a1 : -2147483648 ≤ x1 ∧ x1 ≤ 2147483647 := h1
  have a2 : -2147483648 ≤ x2 ∧ x2 ≤ 2147483647 := h2
  have a3 : -2147483648 ≤ x3 ∧ x3 ≤ 2147483647 := h3
  have e2 := hS.2 2 (by decide) (by decide)
  have hf1 := hB.1.1
  have bad : ∀ s0 : Int, 0 < s0 ∧ s0 < 10 → q_ok (J_X12_frame_29 x1 x2 x3 s0 s) (fun r => q_K g s r.2 ∧ r.2 168 0 = s0) := fun s0 hs => by
    simp only [J_X12_frame_29, q_g, q_b, q_let, q_ite, q_some, z32, z64, true_or, or_true, true_and, and_true]
    refine q_eq (s_holds_p hs) ?_
    dsimp only
    exact ⟨by decide, fun h9 => absurd h9 (by decide), fun _ => ⟨q_bad hS, z_up_at⟩⟩
  refine ⟨fun hn => ?_, fun hy h16 => ?_⟩
  · simp only [J_X12_frame, q_g, q_b, q_let, q_ite, q_some, z32, z64, true_or, or_true, true_and, and_true]
    refine q_eq (s_X12_areNumbers (by omega)) ?_
    rw [if_neg hn]
    exact ⟨by decide, fun _ => bad 1 (by decide), fun h9 => by omega⟩
  · simp only [J_X12_frame, q_g, q_b, q_let, q_ite, q_some, z32, z64, true_or, or_true, true_and, and_true]
    refine q_eq (s_X12_areNumbers (by omega)) ?_
    rw [if_pos hy, e2]
    exact ⟨by decide, fun h9 => by omega, fun _ => ⟨by omega, fun _ => bad 2 (by decide), fun h9 => by omega⟩⟩
theorem s_triple_y {x1 x2 x3 : Int} {st : z_St} (hx : (-30000 ≤ x1 ∧ x1 ≤ 30000) ∧ (-30000 ≤ x2 ∧ x2 ≤ 30000) ∧ (-30000 ≤ x3 ∧ x3 ≤ 30000)) : J_X11_checkTriple x1 x2 x3 st = some (.inl ()) := by
  have z : ∀ y : Int, (-30000 ≤ y ∧ y ≤ 30000) → z32 y ∧ z32 (-30000) ∧ z32 30000 := fun y hy => ⟨⟨by omega, by omega⟩, by decide, by decide⟩
  unfold J_X11_checkTriple
  rw [q_xs (s_range_y (z x1 hx.1) hx.1), q_xs (s_range_y (z x2 hx.2.1) hx.2.1), q_xs (s_range_y (z x3 hx.2.2) hx.2.2)]
theorem s_triple_n {x1 x2 x3 : Int} {st : z_St} (h1 : z32 x1) (h2 : z32 x2) (h3 : z32 x3) (hx : ¬ ((-30000 ≤ x1 ∧ x1 ≤ 30000) ∧ (-30000 ≤ x2 ∧ x2 ≤ 30000) ∧ (-30000 ≤ x3 ∧ x3 ≤ 30000))) : J_X11_checkTriple x1 x2 x3 st = some (.inr (1, st)) := by
  have z : ∀ y : Int, z32 y → z32 y ∧ z32 (-30000) ∧ z32 30000 := fun y hy => ⟨hy, by decide, by decide⟩
  unfold J_X11_checkTriple
  by_cases c1 : -30000 ≤ x1 ∧ x1 ≤ 30000
  · rw [q_xs (s_range_y (z x1 h1) c1)]
    by_cases c2 : -30000 ≤ x2 ∧ x2 ≤ 30000
    · rw [q_xs (s_range_y (z x2 h2) c2), q_xe (s_range_n (z x3 h3) (fun c3 => hx ⟨c1, c2, c3⟩))]
    · rw [q_xe (s_range_n (z x2 h2) c2)]
  · rw [q_xe (s_range_n (z x1 h1) c1)]
theorem j_0 {g st : z_St} {f : Int → Int} {i : Int} (h : q_INV g st) (hf : ∀ j, z32 (f j)) : q_ok (JL_0 f i st) (q_out g) := by
  have hB := h.2.1
  have hf1 := hB.1.1
  obtain ⟨x1, hx1⟩ : ∃ x1, f (i + 1) = x1 := ⟨_, rfl⟩
  obtain ⟨x2, hx2⟩ : ∃ x2, f (i + 2) = x2 := ⟨_, rfl⟩
  obtain ⟨x3, hx3⟩ : ∃ x3, f (i + 3) = x3 := ⟨_, rfl⟩
  have z1 : z32 x1 := hx1 ▸ hf (i + 1)
  have z2 : z32 x2 := hx2 ▸ hf (i + 2)
  have z3 : z32 x3 := hx3 ▸ hf (i + 3)
  unfold JL_0
  rw [hx1, hx2, hx3]
  have e12 := h.2.2.1.1.1
  have e168 := h.1.2 2 (by decide) (by decide)
  have hR := fun s (hs : q_same g s) => s_X12_frame_n hs hB z1 z2 z3
  by_cases c : (-30000 ≤ x1 ∧ x1 ≤ 30000) ∧ (-30000 ≤ x2 ∧ x2 ≤ 30000) ∧ (-30000 ≤ x3 ∧ x3 ≤ 30000)
  · by_cases c16 : g 168 2 = 16
    · refine q_out_0 (j_I (code := 2) (val := 0) (by decide) (fun h9 => absurd h9 (by decide)) (l_nI h (by decide) ?_) (fun s hs => q_mono ((hR s hs.1).2 c c16) (fun q hq => ⟨hq.1, hq.2, fun h9 => absurd h9 (by decide)⟩)))
      unfold J_L_frame J_X11_frame
      rw [q_xs (s_triple_y c), e12, c16]
      rfl
    · obtain ⟨n, hn⟩ : ∃ n, g 168 2 = n := ⟨_, rfl⟩
      rw [hn] at e12 e168 hf1 c16
      obtain ⟨hG, _⟩ := q_GG_self h
      have hG1 := hG.1
      refine j_new (s1 := z_up (z_up (z_up (z_up st (3 + n) 0 x1) (3 + n) 1 x2) (3 + n) 2 x3) 1 2 (n + 1)) (val := n + 1) h ?_ ⟨by omega, by omega⟩ (s_X12_frame_y (h := n) c ?_ (by omega)) ?_ ?_ ?_ ⟨?_, (k_2 hG.2.1 (by (first | (simp (disch := omega) only [q_up_row, q_od_row, z_up_at, q_up_ne]; done) | rfl)) (by (first | (simp (disch := omega) only [q_up_row, q_od_row, z_up_at, q_up_ne]; done) | rfl)) (by (first | (simp (disch := omega) only [q_up_row, q_od_row, z_up_at, q_up_ne]; done) | rfl)) (fun x p q => by (first | (simp (disch := omega) only [q_up_row, q_od_row, z_up_at, q_up_ne]; done) | rfl))), (k_3 hG.2.2.1 (by (first | (simp (disch := omega) only [q_up_row, q_od_row, z_up_at, q_up_ne]; done) | rfl)) (fun x p q => by (first | (simp (disch := omega) only [q_up_row, q_od_row, z_up_at, q_up_ne]; done) | rfl)) (by (first | (simp (disch := omega) only [q_up_row, q_od_row, z_up_at, q_up_ne]; done) | rfl)) (fun x p q => by (first | (simp (disch := omega) only [q_up_row, q_od_row, z_up_at, q_up_ne]; done) | rfl))), (k_4 hG.2.2.2.1 (by (first | (simp (disch := omega) only [q_up_row, q_od_row, z_up_at, q_up_ne]; done) | rfl)) (by (first | (simp (disch := omega) only [q_up_row, q_od_row, z_up_at, q_up_ne]; done) | rfl)) (by (first | (simp (disch := omega) only [q_up_row, q_od_row, z_up_at, q_up_ne]; done) | rfl)) (by (first | (simp (disch := omega) only [q_up_row, q_od_row, z_up_at, q_up_ne]; done) | rfl))), (k_5 hG.2.2.2.2.1 (by (first | (simp (disch := omega) only [q_up_row, q_od_row, z_up_at, q_up_ne]; done) | rfl)) (Int.le_of_eq (by (first | (simp (disch := omega) only [q_up_row, q_od_row, z_up_at, q_up_ne]; done) | rfl))) (fun x p q => by (first | (simp (disch := omega) only [q_up_row, q_od_row, z_up_at, q_up_ne]; done) | rfl)) (by (first | (simp (disch := omega) only [q_up_row, q_od_row, z_up_at, q_up_ne]; done) | rfl)) (fun x p => by (first | (simp (disch := omega) only [q_up_row, q_od_row, z_up_at, q_up_ne]; done) | rfl))), (k_6 hG.2.2.2.2.2 ⟨(by (first | (simp (disch := omega) only [q_up_row, q_od_row, z_up_at, q_up_ne]; done) | rfl)), (by (first | (simp (disch := omega) only [q_up_row, q_od_row, z_up_at, q_up_ne]; done) | rfl)), (by (first | (simp (disch := omega) only [q_up_row, q_od_row, z_up_at, q_up_ne]; done) | rfl))⟩ (by (first | (simp (disch := omega) only [q_up_row, q_od_row, z_up_at, q_up_ne]; done) | rfl)) ⟨(by (first | (simp (disch := omega) only [q_up_row, q_od_row, z_up_at, q_up_ne]; done) | rfl)), (by (first | (simp (disch := omega) only [q_up_row, q_od_row, z_up_at, q_up_ne]; done) | rfl)), (by (first | (simp (disch := omega) only [q_up_row, q_od_row, z_up_at, q_up_ne]; done) | rfl))⟩ (fun x p q => by (first | (simp (disch := omega) only [q_up_row, q_od_row, z_up_at, q_up_ne]; done) | rfl)))⟩ ?_
      · have : J_X11_frame x1 x2 x3 st = some (.inl (n + 1, q_od (z_up (z_up (z_up (z_up st (3 + n) 0 x1) (3 + n) 1 x2) (3 + n) 2 x3) 1 2 (n + 1)))) := by
          unfold J_X11_frame
          rw [q_xs (s_triple_y c), e12]
          refine q_of ?_
          simp only [J_X11_setTriple, q_g, q_b, q_let, q_ite, q_some, z32, z64, true_or, or_true, true_and, and_true]
          refine ⟨by omega, fun _ => ⟨by omega, by decide, by decide, by decide, ?_⟩, fun h9 => by omega⟩
          refine q_eq s_outdate ?_
          simp (disch := omega) only [q_up_row, q_od_row, z_up_at, q_up_ne, e12]
        unfold J_L_frame
        rw [this]
        show z_g (z32 (n + 1)) _ = _
        unfold z_g
        rw [if_pos (show z32 (n + 1) from ⟨by omega, by omega⟩)]
      · simp (disch := omega) only [q_up_row, q_od_row, z_up_at, q_up_ne]; exact e168
      · (first | (simp (disch := omega) only [q_up_row, q_od_row, z_up_at, q_up_ne]; done) | rfl)
      · intro x hx; (first | (simp (disch := omega) only [q_up_row, q_od_row, z_up_at, q_up_ne]; done) | rfl)
      · exact ⟨by (first | (simp (disch := omega) only [q_up_row, q_od_row, z_up_at, q_up_ne]; done) | rfl), by (first | (simp (disch := omega) only [q_up_row, q_od_row, z_up_at, q_up_ne]; done) | rfl)⟩
      · obtain ⟨⟨r1, r2⟩, c1, c2⟩ := hG1
        refine ⟨⟨?_, fun k a b => ?_⟩, ?_, fun k w a b c d => ?_⟩
        · simp (disch := omega) only [q_up_row, q_od_row, z_up_at, q_up_ne]; omega
        · have := r2 k a b
          simp (disch := omega) only [q_up_row, q_od_row]
          rw [q_up_at, q_up_at, q_up_at]
          simp (disch := omega) only [q_up_row, q_od_row]
          (repeat' split) <;> omega
        · simp (disch := omega) only [q_up_row, q_od_row, z_up_at, q_up_ne]
        · have := c2 k w a b c d
          by_cases e : k = n
          · subst e
            have hw : w = 0 ∨ w = 1 ∨ w = 2 := by omega
            rcases hw with rfl | rfl | rfl
            · rw [Int.add_zero]; simp (disch := omega) only [q_up_row, q_od_row, z_up_at, q_up_ne]
            · simp (disch := omega) only [q_up_row, q_od_row, z_up_at, q_up_ne]
            · simp (disch := omega) only [q_up_row, q_od_row, z_up_at, q_up_ne]
          · simp (disch := omega) only [q_up_row, q_od_row, z_up_at, q_up_ne]; exact this
      · simp (disch := omega) only [q_up_row, q_od_row, z_up_at, q_up_ne]; omega
  · refine q_out_0 (j_I (code := 1) (val := 0) (by decide) (fun h9 => absurd h9 (by decide)) (l_nI h (by decide) ?_) (fun s hs => q_mono ((hR s hs.1).1 c) (fun q hq => ⟨hq.1, hq.2, fun h9 => absurd h9 (by decide)⟩)))
    unfold J_L_frame J_X11_frame
    rw [q_xe (s_triple_n z1 z2 z3 c)]
    rfl
theorem j_1 {g st : z_St} {f : Int → Int} {i : Int} (h : q_INV g st) (_hf : ∀ j, z32 (f j)) : q_ok (JL_1 f i st) (q_out g) := by
  have hf1 := h.2.1.1.1
  have e12 := h.2.2.1.1.1
  have e168 := h.1.2 2 (by decide) (by decide)
  obtain ⟨hG, _⟩ := q_GG_self h
  have hG1 := hG.1
  simp only [JL_1, J_X11_silence, q_g, q_b, q_let, q_ite, q_some, z32, z64, true_or, or_true, true_and, and_true]
  refine q_eq s_outdate ?_
  simp only [J_X12_silence, q_g, q_b, q_let, q_ite, q_some, z32, z64, true_or, or_true, true_and, and_true]
  refine q_eq s_holds_0 ?_
  dsimp only
  have e3 : z_up (q_od (z_up st 1 2 0)) 168 0 0 168 2 = g 168 2 := by simp (disch := omega) only [q_up_row, q_od_row, z_up_at, q_up_ne]; exact e168
  rw [e3, e12]
  refine ⟨⟨⟨by omega, by omega⟩, rfl⟩, ?_⟩
  -- 199 keeps what it held
  have hup : ∀ x, z_up (q_od (z_up st 1 2 0)) 199 0 (st 199 0) x = q_od (z_up st 1 2 0) x := fun x => by
    by_cases e : x = 199
    · subst e
      funext y
      rw [q_up_at]
      by_cases e2 : y = 0
      · subst e2; rw [if_pos rfl]; simp (disch := omega) only [q_up_row, q_od_row, z_up_at, q_up_ne]
      · rw [if_neg e2]
    · rw [q_up_row e]
  refine q_out_new (s1 := z_up st 1 2 0) (val := st 199 0) h ?_ ⟨by (first | (simp (disch := omega) only [q_up_row, q_od_row, z_up_at, q_up_ne]; done) | rfl), by (first | (simp (disch := omega) only [q_up_row, q_od_row, z_up_at, q_up_ne]; done) | rfl)⟩ ⟨?_, (k_2 hG.2.1 (by (first | (simp (disch := omega) only [q_up_row, q_od_row, z_up_at, q_up_ne]; done) | rfl)) (by (first | (simp (disch := omega) only [q_up_row, q_od_row, z_up_at, q_up_ne]; done) | rfl)) (by (first | (simp (disch := omega) only [q_up_row, q_od_row, z_up_at, q_up_ne]; done) | rfl)) (fun x p q => by (first | (simp (disch := omega) only [q_up_row, q_od_row, z_up_at, q_up_ne]; done) | rfl))), (k_3 hG.2.2.1 (by (first | (simp (disch := omega) only [q_up_row, q_od_row, z_up_at, q_up_ne]; done) | rfl)) (fun x p q => by (first | (simp (disch := omega) only [q_up_row, q_od_row, z_up_at, q_up_ne]; done) | rfl)) (by (first | (simp (disch := omega) only [q_up_row, q_od_row, z_up_at, q_up_ne]; done) | rfl)) (fun x p q => by (first | (simp (disch := omega) only [q_up_row, q_od_row, z_up_at, q_up_ne]; done) | rfl))), (k_4 hG.2.2.2.1 (by (first | (simp (disch := omega) only [q_up_row, q_od_row, z_up_at, q_up_ne]; done) | rfl)) (by (first | (simp (disch := omega) only [q_up_row, q_od_row, z_up_at, q_up_ne]; done) | rfl)) (by (first | (simp (disch := omega) only [q_up_row, q_od_row, z_up_at, q_up_ne]; done) | rfl)) (by (first | (simp (disch := omega) only [q_up_row, q_od_row, z_up_at, q_up_ne]; done) | rfl))), (k_5 hG.2.2.2.2.1 (by (first | (simp (disch := omega) only [q_up_row, q_od_row, z_up_at, q_up_ne]; done) | rfl)) (Int.le_of_eq (by (first | (simp (disch := omega) only [q_up_row, q_od_row, z_up_at, q_up_ne]; done) | rfl))) (fun x p q => by (first | (simp (disch := omega) only [q_up_row, q_od_row, z_up_at, q_up_ne]; done) | rfl)) (by (first | (simp (disch := omega) only [q_up_row, q_od_row, z_up_at, q_up_ne]; done) | rfl)) (fun x p => by (first | (simp (disch := omega) only [q_up_row, q_od_row, z_up_at, q_up_ne]; done) | rfl))), (k_6 hG.2.2.2.2.2 ⟨(by (first | (simp (disch := omega) only [q_up_row, q_od_row, z_up_at, q_up_ne]; done) | rfl)), (by (first | (simp (disch := omega) only [q_up_row, q_od_row, z_up_at, q_up_ne]; done) | rfl)), (by (first | (simp (disch := omega) only [q_up_row, q_od_row, z_up_at, q_up_ne]; done) | rfl))⟩ (by (first | (simp (disch := omega) only [q_up_row, q_od_row, z_up_at, q_up_ne]; done) | rfl)) ⟨(by (first | (simp (disch := omega) only [q_up_row, q_od_row, z_up_at, q_up_ne]; done) | rfl)), (by (first | (simp (disch := omega) only [q_up_row, q_od_row, z_up_at, q_up_ne]; done) | rfl)), (by (first | (simp (disch := omega) only [q_up_row, q_od_row, z_up_at, q_up_ne]; done) | rfl))⟩ (fun x p q => by (first | (simp (disch := omega) only [q_up_row, q_od_row, z_up_at, q_up_ne]; done) | rfl)))⟩ ?_
  · intro x hx
    rw [hup]
    (first | (simp (disch := omega) only [q_up_row, q_od_row, z_up_at, q_up_ne]; done) | rfl)
  · obtain ⟨⟨r1, r2⟩, c1, c2⟩ := hG1
    refine ⟨⟨?_, fun k a b => ?_⟩, ?_, fun k w a b c d => ?_⟩
    · simp (disch := omega) only [q_up_row, q_od_row, z_up_at, q_up_ne]; omega
    · simp (disch := omega) only [q_up_row, q_od_row, z_up_at, q_up_ne]; exact r2 k a b
    · simp (disch := omega) only [q_up_row, q_od_row, z_up_at, q_up_ne]
    · simp (disch := omega) only [q_up_row, q_od_row, z_up_at, q_up_ne]; exact c2 k w a b c d
  · simp (disch := omega) only [q_up_row, q_od_row, z_up_at, q_up_ne]; omega
theorem j_2 {g st : z_St} {f : Int → Int} {i : Int} (h : q_INV g st) (hf : ∀ j, z32 (f j)) : q_ok (JL_2 f i st) (q_out g) := by
  have hs1 := h.2.1.2.1.1
  have e13 := h.2.2.1.2.1.1
  have e168 := h.1.2 4 (by decide) (by decide)
  obtain ⟨x, hx⟩ : ∃ x, f (i + 1) = x := ⟨_, rfl⟩
  have zx : z32 x := hx ▸ hf (i + 1)
  have yx : -2147483648 ≤ x ∧ x ≤ 2147483647 := zx
  unfold JL_2
  rw [hx]
  have hcs : ∀ s : z_St, (0 ≤ x ∧ x ≤ 3 → J_X12_speak x s = some (s 168 4, z_up (z_up s 168 0 0) 168 4 x)) ∧ (¬ (0 ≤ x ∧ x ≤ 3) → J_X12_speak x s = some (-1, z_up s 168 0 1)) := fun s => by
    refine ⟨fun c => q_of ?_, fun c => q_of ?_⟩ <;> simp only [J_X12_speak, q_g, q_b, q_let, q_ite, q_some, z32, z64, true_or, or_true, true_and, and_true] <;> refine ⟨by omega, q_eq (s_X12_in (by omega)) ?_⟩ <;> unfold q_in
    · rw [if_pos c]
      simp only [J_X12_speak_19, q_g, q_b, q_let, q_ite, q_some, z32, z64, true_or, or_true, true_and, and_true]
      refine ⟨by decide, fun h9 => by omega, fun _ => q_eq s_holds_0 ?_⟩
      dsimp only
      refine ⟨by decide, fun _ => ?_, fun h9 => absurd rfl h9⟩
      simp (disch := omega) only [q_up_row, q_od_row, z_up_at, q_up_ne]
    · rw [if_neg c]
      simp only [J_X12_speak_19, q_g, q_b, q_let, q_ite, q_some, z32, z64, true_or, or_true, true_and, and_true]
      refine ⟨by decide, fun _ => q_eq (s_holds_p (by decide)) ?_, fun h9 => by first | exact absurd rfl h9 | exact absurd trivial h9 | omega⟩
      dsimp only
      exact ⟨by decide, fun h9 => absurd h9 (by decide), fun _ => rfl⟩
  by_cases c : 0 ≤ x ∧ x ≤ 3
  · obtain ⟨hG, _⟩ := q_GG_self h
    have hG2 := hG.2.1
    refine j_new (s1 := z_up st 1 3 x) (val := g 168 4) (s2 := z_up (z_up (z_up (q_od (z_up st 1 3 x)) 199 0 (g 168 4)) 168 0 0) 168 4 x) h ?_ ⟨by omega, by omega⟩ ?_ ?_ ?_ ⟨?_, ?_⟩ ⟨(k_1 hG.1 (by (first | (simp (disch := omega) only [q_up_row, q_od_row, z_up_at, q_up_ne]; done) | rfl)) (by (first | (simp (disch := omega) only [q_up_row, q_od_row, z_up_at, q_up_ne]; done) | rfl)) (by (first | (simp (disch := omega) only [q_up_row, q_od_row, z_up_at, q_up_ne]; done) | rfl)) (fun x p q => by (first | (simp (disch := omega) only [q_up_row, q_od_row, z_up_at, q_up_ne]; done) | rfl))), ?_, (k_3 hG.2.2.1 (by (first | (simp (disch := omega) only [q_up_row, q_od_row, z_up_at, q_up_ne]; done) | rfl)) (fun x p q => by (first | (simp (disch := omega) only [q_up_row, q_od_row, z_up_at, q_up_ne]; done) | rfl)) (by (first | (simp (disch := omega) only [q_up_row, q_od_row, z_up_at, q_up_ne]; done) | rfl)) (fun x p q => by (first | (simp (disch := omega) only [q_up_row, q_od_row, z_up_at, q_up_ne]; done) | rfl))), (k_4 hG.2.2.2.1 (by (first | (simp (disch := omega) only [q_up_row, q_od_row, z_up_at, q_up_ne]; done) | rfl)) (by (first | (simp (disch := omega) only [q_up_row, q_od_row, z_up_at, q_up_ne]; done) | rfl)) (by (first | (simp (disch := omega) only [q_up_row, q_od_row, z_up_at, q_up_ne]; done) | rfl)) (by (first | (simp (disch := omega) only [q_up_row, q_od_row, z_up_at, q_up_ne]; done) | rfl))), (k_5 hG.2.2.2.2.1 (by (first | (simp (disch := omega) only [q_up_row, q_od_row, z_up_at, q_up_ne]; done) | rfl)) (Int.le_of_eq (by (first | (simp (disch := omega) only [q_up_row, q_od_row, z_up_at, q_up_ne]; done) | rfl))) (fun x p q => by (first | (simp (disch := omega) only [q_up_row, q_od_row, z_up_at, q_up_ne]; done) | rfl)) (by (first | (simp (disch := omega) only [q_up_row, q_od_row, z_up_at, q_up_ne]; done) | rfl)) (fun x p => by (first | (simp (disch := omega) only [q_up_row, q_od_row, z_up_at, q_up_ne]; done) | rfl))), (k_6 hG.2.2.2.2.2 ⟨(by (first | (simp (disch := omega) only [q_up_row, q_od_row, z_up_at, q_up_ne]; done) | rfl)), (by (first | (simp (disch := omega) only [q_up_row, q_od_row, z_up_at, q_up_ne]; done) | rfl)), (by (first | (simp (disch := omega) only [q_up_row, q_od_row, z_up_at, q_up_ne]; done) | rfl))⟩ (by (first | (simp (disch := omega) only [q_up_row, q_od_row, z_up_at, q_up_ne]; done) | rfl)) ⟨(by (first | (simp (disch := omega) only [q_up_row, q_od_row, z_up_at, q_up_ne]; done) | rfl)), (by (first | (simp (disch := omega) only [q_up_row, q_od_row, z_up_at, q_up_ne]; done) | rfl)), (by (first | (simp (disch := omega) only [q_up_row, q_od_row, z_up_at, q_up_ne]; done) | rfl))⟩ (fun x p q => by (first | (simp (disch := omega) only [q_up_row, q_od_row, z_up_at, q_up_ne]; done) | rfl)))⟩ ?_
    · have : J_X11_speak x st = some (.inl (g 168 4, q_od (z_up st 1 3 x))) := by
        unfold J_X11_speak
        rw [q_xs (s_index_y ⟨zx, by decide⟩ (by omega))]
        refine q_of ?_
        simp only [q_g, q_b, q_let, q_ite, q_some, z32, z64, true_or, or_true, true_and, and_true]
        refine q_eq s_outdate ?_
        rw [e13]
      unfold J_L_speak
      rw [this]
      show z_g (z32 (g 168 4)) _ = _
      unfold z_g
      rw [if_pos (show z32 (g 168 4) from ⟨by omega, by omega⟩)]
    · rw [(hcs _).1 c]
      have : z_up (q_od (z_up st 1 3 x)) 199 0 (g 168 4) 168 4 = g 168 4 := by simp (disch := omega) only [q_up_row, q_od_row, z_up_at, q_up_ne]; exact e168
      rw [this]
    · simp (disch := omega) only [q_up_row, q_od_row, z_up_at, q_up_ne]
    · intro y hy; (first | (simp (disch := omega) only [q_up_row, q_od_row, z_up_at, q_up_ne]; done) | rfl)
    · (first | (simp (disch := omega) only [q_up_row, q_od_row, z_up_at, q_up_ne]; done) | rfl)
    · (first | (simp (disch := omega) only [q_up_row, q_od_row, z_up_at, q_up_ne]; done) | rfl)
    · obtain ⟨⟨r1, r2⟩, c1, c2⟩ := hG2
      refine ⟨⟨?_, fun k a b => ?_⟩, ?_, fun k w a b c d => ?_⟩
      · simp (disch := omega) only [q_up_row, q_od_row, z_up_at, q_up_ne]; omega
      · simp (disch := omega) only [q_up_row, q_od_row, z_up_at, q_up_ne]; exact r2 k a b
      · simp (disch := omega) only [q_up_row, q_od_row, z_up_at, q_up_ne]
      · simp (disch := omega) only [q_up_row, q_od_row, z_up_at, q_up_ne]; exact c2 k w a b c d
    · simp (disch := omega) only [q_up_row, q_od_row, z_up_at, q_up_ne]; omega
  · refine q_out_0 (j_I (code := 1) (val := 0) (by decide) (fun h9 => absurd h9 (by decide)) (l_nI h (by decide) ?_) (fun s hs => ?_))
    · unfold J_L_speak J_X11_speak
      rw [q_xe (s_index_n ⟨zx, by decide⟩ (by omega))]
      rfl
    · rw [(hcs _).2 c]
      exact ⟨_, rfl, q_bad hs.1, (by dsimp only; exact z_up_at), fun h9 => absurd h9 (by decide)⟩
theorem j_3 {g st : z_St} {f : Int → Int} {i : Int} (h : q_INV g st) (hf : ∀ j, z32 (f j)) : q_ok (JL_3 f i st) (q_out g) := by
  have hs1 := h.2.1.2.1.1
  have hs2 := h.2.1.2.1.2
  have e20 := h.2.2.1.2.1.2
  have e170 := h.1.1 170 (by decide) (by decide)
  obtain ⟨x1, hx1⟩ : ∃ x1, f (i + 1) = x1 := ⟨_, rfl⟩
  obtain ⟨x2, hx2⟩ : ∃ x2, f (i + 2) = x2 := ⟨_, rfl⟩
  obtain ⟨x3, hx3⟩ : ∃ x3, f (i + 3) = x3 := ⟨_, rfl⟩
  have z1 : z32 x1 := hx1 ▸ hf (i + 1)
  have z2 : z32 x2 := hx2 ▸ hf (i + 2)
  have z3 : z32 x3 := hx3 ▸ hf (i + 3)
  have y1 : -2147483648 ≤ x1 ∧ x1 ≤ 2147483647 := z1
  have y2 : -2147483648 ≤ x2 ∧ x2 ≤ 2147483647 := z2
  have y3 : -2147483648 ≤ x3 ∧ x3 ≤ 2147483647 := z3
  unfold JL_3
  rw [hx1, hx2, hx3]
  have bad : ∀ (s : z_St) (s0 : Int), 0 < s0 ∧ s0 < 10 → J_X12_shift_44 x1 x2 x3 s0 s = some (-1, z_up s 168 0 s0) := fun s s0 hs => by
    refine q_of ?_
    simp only [J_X12_shift_44, q_g, q_b, q_let, q_ite, q_some, z32, z64, true_or, or_true, true_and, and_true]
    refine q_eq (s_holds_p hs) ?_
    dsimp only
    exact ⟨by decide, fun h9 => absurd h9 (by decide), fun _ => rfl⟩
  by_cases c1 : 0 ≤ x1 ∧ x1 ≤ 3
  · by_cases c2 : (0 ≤ x2 ∧ x2 ≤ 2) ∧ -30000 ≤ x3 ∧ x3 ≤ 30000
    · obtain ⟨hG, _⟩ := q_GG_self h
      have hG2 := hG.2.1
      have hv := hs2 (3 * x1 + x2) (by omega) (by omega)
      have e20' := e20 x1 x2 (by omega) (by omega) (by omega) (by omega)
      refine j_new (s1 := z_up st (20 + x1) x2 x3) (val := g 170 (3 * x1 + x2)) (s2 := z_up (z_up (z_up (q_od (z_up st (20 + x1) x2 x3)) 199 0 (g 170 (3 * x1 + x2))) 168 0 0) 170 (3 * x1 + x2) x3) h ?_ ⟨by omega, by omega⟩ ?_ ?_ ?_ ⟨?_, ?_⟩ ⟨(k_1 hG.1 (by (first | (simp (disch := omega) only [q_up_row, q_od_row, z_up_at, q_up_ne]; done) | rfl)) (by (first | (simp (disch := omega) only [q_up_row, q_od_row, z_up_at, q_up_ne]; done) | rfl)) (by (first | (simp (disch := omega) only [q_up_row, q_od_row, z_up_at, q_up_ne]; done) | rfl)) (fun x p q => by (first | (simp (disch := omega) only [q_up_row, q_od_row, z_up_at, q_up_ne]; done) | rfl))), ?_, (k_3 hG.2.2.1 (by (first | (simp (disch := omega) only [q_up_row, q_od_row, z_up_at, q_up_ne]; done) | rfl)) (fun x p q => by (first | (simp (disch := omega) only [q_up_row, q_od_row, z_up_at, q_up_ne]; done) | rfl)) (by (first | (simp (disch := omega) only [q_up_row, q_od_row, z_up_at, q_up_ne]; done) | rfl)) (fun x p q => by (first | (simp (disch := omega) only [q_up_row, q_od_row, z_up_at, q_up_ne]; done) | rfl))), (k_4 hG.2.2.2.1 (by (first | (simp (disch := omega) only [q_up_row, q_od_row, z_up_at, q_up_ne]; done) | rfl)) (by (first | (simp (disch := omega) only [q_up_row, q_od_row, z_up_at, q_up_ne]; done) | rfl)) (by (first | (simp (disch := omega) only [q_up_row, q_od_row, z_up_at, q_up_ne]; done) | rfl)) (by (first | (simp (disch := omega) only [q_up_row, q_od_row, z_up_at, q_up_ne]; done) | rfl))), (k_5 hG.2.2.2.2.1 (by (first | (simp (disch := omega) only [q_up_row, q_od_row, z_up_at, q_up_ne]; done) | rfl)) (Int.le_of_eq (by (first | (simp (disch := omega) only [q_up_row, q_od_row, z_up_at, q_up_ne]; done) | rfl))) (fun x p q => by (first | (simp (disch := omega) only [q_up_row, q_od_row, z_up_at, q_up_ne]; done) | rfl)) (by (first | (simp (disch := omega) only [q_up_row, q_od_row, z_up_at, q_up_ne]; done) | rfl)) (fun x p => by (first | (simp (disch := omega) only [q_up_row, q_od_row, z_up_at, q_up_ne]; done) | rfl))), (k_6 hG.2.2.2.2.2 ⟨(by (first | (simp (disch := omega) only [q_up_row, q_od_row, z_up_at, q_up_ne]; done) | rfl)), (by (first | (simp (disch := omega) only [q_up_row, q_od_row, z_up_at, q_up_ne]; done) | rfl)), (by (first | (simp (disch := omega) only [q_up_row, q_od_row, z_up_at, q_up_ne]; done) | rfl))⟩ (by (first | (simp (disch := omega) only [q_up_row, q_od_row, z_up_at, q_up_ne]; done) | rfl)) ⟨(by (first | (simp (disch := omega) only [q_up_row, q_od_row, z_up_at, q_up_ne]; done) | rfl)), (by (first | (simp (disch := omega) only [q_up_row, q_od_row, z_up_at, q_up_ne]; done) | rfl)), (by (first | (simp (disch := omega) only [q_up_row, q_od_row, z_up_at, q_up_ne]; done) | rfl))⟩ (fun x p q => by (first | (simp (disch := omega) only [q_up_row, q_od_row, z_up_at, q_up_ne]; done) | rfl)))⟩ ?_
      · have : J_X11_shift x1 x2 x3 st = some (.inl (g 170 (3 * x1 + x2), q_od (z_up st (20 + x1) x2 x3))) := by
          unfold J_X11_shift
          rw [q_xs (s_index_y ⟨z1, by decide⟩ (by omega)), q_xs (s_range_y ⟨z2, by decide, by decide⟩ c2.1), q_xs (s_range_y ⟨z3, by decide, by decide⟩ c2.2)]
          refine q_of ?_
          simp only [q_g, q_b, q_let, q_ite, q_some, z32, z64, true_or, or_true, true_and, and_true]
          refine ⟨by omega, by omega, by omega, by omega, ?_⟩
          refine q_eq s_outdate ?_
          rw [e20']
        unfold J_L_shift
        rw [this]
        show z_g (z32 (g 170 (3 * x1 + x2))) _ = _
        unfold z_g
        rw [if_pos (show z32 (g 170 (3 * x1 + x2)) from ⟨by omega, by omega⟩)]
      · refine q_of ?_
        simp only [J_X12_shift, q_g, q_b, q_let, q_ite, q_some, z32, z64, true_or, or_true, true_and, and_true]
        refine ⟨by omega, q_eq (s_X12_in (by omega)) ?_⟩
        unfold q_in
        rw [if_pos c1]
        refine ⟨by decide, fun h9 => by omega, fun _ => ⟨by omega, q_eq (s_X12_in (by omega)) ?_⟩⟩
        unfold q_in
        rw [if_pos c2.1]
        refine ⟨by decide, fun h9 => by omega, fun _ => q_eq (s_X12_isNumber (by omega)) ?_⟩
        unfold q_in
        rw [if_pos c2.2]
        refine ⟨by decide, fun h9 => by omega, fun _ => ?_⟩
        simp only [J_X12_shift_44, q_g, q_b, q_let, q_ite, q_some, z32, z64, true_or, or_true, true_and, and_true]
        refine q_eq s_holds_0 ?_
        dsimp only
        refine ⟨by decide, fun _ => ⟨by omega, by omega, ?_⟩, fun h9 => absurd rfl h9⟩
        have : z_up (z_up (q_od (z_up st (20 + x1) x2 x3)) 199 0 (g 170 (3 * x1 + x2))) 168 0 0 170 (3 * x1 + x2) = g 170 (3 * x1 + x2) := by simp (disch := omega) only [q_up_row, q_od_row, z_up_at, q_up_ne]; rw [e170]
        rw [this]
      · simp (disch := omega) only [q_up_row, q_od_row, z_up_at, q_up_ne]
      · intro y hy; (first | (simp (disch := omega) only [q_up_row, q_od_row, z_up_at, q_up_ne]; done) | rfl)
      · (first | (simp (disch := omega) only [q_up_row, q_od_row, z_up_at, q_up_ne]; done) | rfl)
      · (first | (simp (disch := omega) only [q_up_row, q_od_row, z_up_at, q_up_ne]; done) | rfl)
      · obtain ⟨⟨r1, r2⟩, k1, k2⟩ := hG2
        refine ⟨⟨?_, fun k a b => ?_⟩, ?_, fun k w a b c d => ?_⟩
        · simp (disch := omega) only [q_up_row, q_od_row, z_up_at, q_up_ne]; exact r1
        · have := r2 k a b
          rw [q_up_at]
          simp (disch := omega) only [q_up_row, q_od_row]
          split <;> omega
        · simp (disch := omega) only [q_up_row, q_od_row, z_up_at, q_up_ne]; exact k1
        · have := k2 k w a b c d
          rw [q_up_at]
          simp (disch := omega) only [q_up_row, q_od_row]
          by_cases e : k = x1
          · subst e
            rw [q_up_at]
            by_cases e2 : w = x2
            · rw [if_pos e2, if_pos (by omega)]
            · rw [if_neg e2, if_neg (by omega)]; exact this
          · rw [if_neg (by omega)]
            simp (disch := omega) only [q_up_row, q_od_row, z_up_at, q_up_ne]; exact this
      · simp (disch := omega) only [q_up_row, q_od_row, z_up_at, q_up_ne]; omega
    · refine q_out_0 (j_I (code := 2) (val := 0) (by decide) (fun h9 => absurd h9 (by decide)) (l_nI h (by decide) ?_) (fun s hs => ?_))
      · unfold J_L_shift J_X11_shift
        rw [q_xs (s_index_y ⟨z1, by decide⟩ (by omega))]
        by_cases c3 : 0 ≤ x2 ∧ x2 ≤ 2
        · rw [q_xs (s_range_y ⟨z2, by decide, by decide⟩ c3), q_xe (s_range_n ⟨z3, by decide, by decide⟩ (fun h9 => c2 ⟨c3, h9⟩))]
          rfl
        · rw [q_xe (s_range_n ⟨z2, by decide, by decide⟩ c3)]
          rfl
      · simp only [J_X12_shift, J_X12_shift_43, q_g, q_b, q_let, q_ite, q_some, z32, z64, true_or, or_true, true_and, and_true]
        refine ⟨by omega, q_eq (s_X12_in (by omega)) ?_⟩
        unfold q_in
        rw [if_pos c1]
        refine ⟨by decide, fun h9 => by omega, fun _ => ⟨by omega, q_eq (s_X12_in (by omega)) ?_⟩⟩
        unfold q_in
        by_cases c3 : 0 ≤ x2 ∧ x2 ≤ 2
        · rw [if_pos c3]
          refine ⟨by decide, fun h9 => by omega, fun _ => q_eq (s_X12_isNumber (by omega)) ?_⟩
          unfold q_in
          rw [if_neg (fun h9 => c2 ⟨c3, h9⟩), bad s 2 (by decide)]
          exact ⟨by decide, fun _ => ⟨_, rfl, q_bad hs.1, (by dsimp only; exact z_up_at), fun h9 => absurd h9 (by decide)⟩, fun h9 => by omega⟩
        · rw [if_neg c3, bad s 2 (by decide)]
          exact ⟨by decide, fun _ => ⟨_, rfl, q_bad hs.1, (by dsimp only; exact z_up_at), fun h9 => absurd h9 (by decide)⟩, fun h9 => by omega⟩
  · refine q_out_0 (j_I (code := 1) (val := 0) (by decide) (fun h9 => absurd h9 (by decide)) (l_nI h (by decide) ?_) (fun s hs => ?_))
    · unfold J_L_shift J_X11_shift
      rw [q_xe (s_index_n ⟨z1, by decide⟩ (by omega))]
      rfl
    · simp only [J_X12_shift, q_g, q_b, q_let, q_ite, q_some, z32, z64, true_or, or_true, true_and, and_true]
      refine ⟨by omega, q_eq (s_X12_in (by omega)) ?_⟩
      unfold q_in
      rw [if_neg c1, bad s 1 (by decide)]
      exact ⟨by decide, fun _ => ⟨_, rfl, q_bad hs.1, (by dsimp only; exact z_up_at), fun h9 => absurd h9 (by decide)⟩, fun h9 => by omega⟩
