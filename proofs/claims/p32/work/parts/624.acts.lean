-- WHAT CHANGES THE CLASS: accepted, refused
/-- an accepted call: it answers v, the class is as in s1 but for what is kept -/
def q_acc (v : Int) (s1 : z_St) (r : Int × z_St) : Prop := r.1 = v ∧ (∃ g', q_INV g' r.2) ∧ ∀ y, y < 168 → y ≠ 99 → y ≠ 134 → y ≠ 144 → y ≠ 148 → r.2 y = s1 y
theorem acc_of {X : Option (z_R (Int × z_St))} {v : Int} {s' s1 : z_St} (hX : X = some (.inl (v, s'))) (hz : z32 v) (hg : ∃ g', q_INV g' (z_gh s')) (hs : ∀ y, y < 168 → y ≠ 99 → y ≠ 134 → y ≠ 144 → y ≠ 148 → s' y = s1 y) : q_ok (z_xd X fun r => z_let (z_gh r.2) fun st2 => z_g (z32 r.1) <| J_L_does_472 r.1 st2) (q_acc v s1) := by
  unfold z_xd
  rw [hX]
  dsimp only
  rw [q_let, q_g]
  exact ⟨hz, _, rfl, rfl, hg, fun y a b c d e => (z_gh_low a).trans (hs y a b c d e)⟩
theorem od_same {s1 : z_St} : ∀ y, y < 168 → y ≠ 99 → y ≠ 134 → y ≠ 144 → y ≠ 148 → q_od s1 y = s1 y := fun y _ b c d e => q_od_row ⟨b, c, d, e⟩
theorem ref_of {g : z_St} {X : Option (z_R (Int × z_St))} {F : Int × z_St → Option (Int × z_St)} {e : Nat} {s : z_St} (he : e = 1 ∨ e = 2 ∨ e = 3) (hX : X = some (.inr (e, s))) (hI : q_INV g s) : q_ok (z_xd X F) (q_ans g (z_xc e)) := by
  unfold z_xd
  rw [hX]
  rcases he with rfl | rfl | rfl
  · exact ⟨_, rfl, hI, rfl⟩
  · exact ⟨_, rfl, hI, rfl⟩
  · exact ⟨_, rfl, hI, rfl⟩
/-- refused: an answer below -1000, and nothing is changed -/
def q_rfs (g : z_St) (r : Int × z_St) : Prop := q_INV g r.2 ∧ r.1 ≤ -1000 ∧ -2000 ≤ r.1
theorem rfs_of {g : z_St} {X : Option (z_R (Int × z_St))} {F : Int × z_St → Option (Int × z_St)} {e : Nat} {s : z_St} (he : e = 1 ∨ e = 2 ∨ e = 3) (hX : X = some (.inr (e, s))) (hI : q_INV g s) : q_ok (z_xd X F) (q_rfs g) := by
  refine q_mono (ref_of he hX hI) ?_
  rintro r ⟨a, b⟩
  rcases he with rfl | rfl | rfl
  · exact ⟨a, by rw [b]; decide, by rw [b]; decide⟩
  · exact ⟨a, by rw [b]; decide, by rw [b]; decide⟩
  · exact ⟨a, by rw [b]; decide, by rw [b]; decide⟩
def q_f4 (a b c d : Int) : Int → Int := fun j => if j = 1 then a else if j = 2 then b else if j = 3 then c else d
theorem q_f4_32 {a b c d : Int} (h1 : z32 a) (h2 : z32 b) (h3 : z32 c) (h4 : z32 d) : ∀ j, z32 (q_f4 a b c d j) := fun j => by
  unfold q_f4
  (repeat' split) <;> assumption
-- frame
def q_tri (x1 x2 x3 : Int) : Prop := (-30000 ≤ x1 ∧ x1 ≤ 30000) ∧ (-30000 ≤ x2 ∧ x2 ≤ 30000) ∧ (-30000 ≤ x3 ∧ x3 ≤ 30000)
theorem d_frame {g st : z_St} (h : q_INV g st) {x1 x2 x3 d : Int} (z1 : z32 x1) (z2 : z32 x2) (z3 : z32 x3) : (q_tri x1 x2 x3 ∧ g 168 2 < 16 → q_ok (J_L_does 0 x1 x2 x3 d st) (q_acc (g 168 2 + 1) (z_up (z_up (z_up (z_up st (3 + g 168 2) 0 x1) (3 + g 168 2) 1 x2) (3 + g 168 2) 2 x3) 1 2 (g 168 2 + 1)))) ∧ (¬ (q_tri x1 x2 x3 ∧ g 168 2 < 16) → q_ok (J_L_does 0 x1 x2 x3 d st) (q_rfs g)) := by
  have hf1 := h.2.1.1.1
  have e12 := h.2.2.1.1.1
  obtain ⟨n, hn⟩ : ∃ n, g 168 2 = n := ⟨_, rfl⟩
  rw [hn] at e12 hf1 ⊢
  refine ⟨fun hc => ?_, fun hc => ?_⟩
  · obtain ⟨c, c16⟩ := hc
    have hX : J_X11_frame x1 x2 x3 st = some (.inl (n + 1, q_od (z_up (z_up (z_up (z_up st (3 + n) 0 x1) (3 + n) 1 x2) (3 + n) 2 x3) 1 2 (n + 1)))) := by
      unfold J_X11_frame
      rw [q_xs (s_triple_y c), e12]
      refine q_of ?_
      simp only [J_X11_setTriple, q_g, q_b, q_let, q_ite, q_some, z32, z64, true_or, or_true, true_and, and_true]
      refine ⟨by omega, fun _ => ⟨by omega, by decide, by decide, by decide, ?_⟩, fun h9 => by omega⟩
      refine q_eq s_outdate ?_
      simp (disch := omega) only [q_up_row, q_od_row, z_up_at, q_up_ne, e12]
    have hL : J_L_frame x1 x2 x3 st = some (0, z_up (q_od (z_up (z_up (z_up (z_up st (3 + n) 0 x1) (3 + n) 1 x2) (3 + n) 2 x3) 1 2 (n + 1))) 199 0 (n + 1)) := by
      unfold J_L_frame
      rw [hX]
      show z_g (z32 (n + 1)) _ = _
      rw [z_g_pos (show z32 (n + 1) from ⟨by omega, by omega⟩)]
    have hj := j_0 (f := q_f4 x1 x2 x3 0) (i := 0) h (q_f4_32 z1 z2 z3 (by decide))
    unfold JL_0 at hj
    exact acc_of hX ⟨by omega, by omega⟩ (m_of (p := (n + 1, _)) hj F_th (fun s => lx_frame) hL) od_same
  · by_cases c : q_tri x1 x2 x3
    · refine rfs_of (e := 2) (by decide) (s := st) ?_ h
      have : n = 16 := by
        by_cases c2 : n < 16
        · exact absurd ⟨c, c2⟩ hc
        · omega
      unfold J_X11_frame
      rw [q_xs (s_triple_y c), e12, this]
      rfl
    · refine rfs_of (e := 1) (by decide) (s := st) ?_ h
      unfold J_X11_frame
      rw [q_xe (s_triple_n z1 z2 z3 c)]
-- speak
theorem d_speak {g st : z_St} (h : q_INV g st) {x b c d : Int} (zx : z32 x) : (0 ≤ x ∧ x ≤ 3 → q_ok (J_L_does 1 x b c d st) (q_acc (g 168 4) (z_up st 1 3 x))) ∧ (¬ (0 ≤ x ∧ x ≤ 3) → q_ok (J_L_does 1 x b c d st) (q_rfs g)) := by
  have hs1 := h.2.1.2.1.1
  have e13 := h.2.2.1.2.1.1
  refine ⟨fun c => ?_, fun c => ?_⟩
  · have hX : J_X11_speak x st = some (.inl (g 168 4, q_od (z_up st 1 3 x))) := by
      unfold J_X11_speak
      rw [q_xs (s_index_y ⟨zx, by decide⟩ (by omega))]
      refine q_of ?_
      simp only [q_g, q_b, q_let, q_ite, q_some, z32, z64, true_or, or_true, true_and, and_true]
      refine q_eq s_outdate ?_
      rw [e13]
    have hL : J_L_speak x st = some (0, z_up (q_od (z_up st 1 3 x)) 199 0 (g 168 4)) := by
      unfold J_L_speak
      rw [hX]
      show z_g (z32 (g 168 4)) _ = _
      rw [z_g_pos (show z32 (g 168 4) from ⟨by omega, by omega⟩)]
    have hj := j_2 (f := q_f4 x 0 0 0) (i := 0) h (q_f4_32 zx (by decide) (by decide) (by decide))
    unfold JL_2 at hj
    exact acc_of hX ⟨by omega, by omega⟩ (m_of (p := (g 168 4, _)) hj F_th (fun s => lw_speak) hL) od_same
  · refine rfs_of (e := 3) (by decide) (s := st) ?_ h
    unfold J_X11_speak
    rw [q_xe (s_index_n ⟨zx, by decide⟩ (by omega))]
-- shift
theorem d_shift {g st : z_St} (h : q_INV g st) {x1 x2 x3 d : Int} (z1 : z32 x1) (z2 : z32 x2) (z3 : z32 x3) : ((0 ≤ x1 ∧ x1 ≤ 3) ∧ (0 ≤ x2 ∧ x2 ≤ 2) ∧ -30000 ≤ x3 ∧ x3 ≤ 30000 → q_ok (J_L_does 2 x1 x2 x3 d st) (q_acc (g 170 (3 * x1 + x2)) (z_up st (20 + x1) x2 x3))) ∧ (¬ ((0 ≤ x1 ∧ x1 ≤ 3) ∧ (0 ≤ x2 ∧ x2 ≤ 2) ∧ -30000 ≤ x3 ∧ x3 ≤ 30000) → q_ok (J_L_does 2 x1 x2 x3 d st) (q_rfs g)) := by
  have hs2 := h.2.1.2.1.2
  have e20 := h.2.2.1.2.1.2
  refine ⟨fun c => ?_, fun c => ?_⟩
  · obtain ⟨c1, c2⟩ := c
    have hv := hs2 (3 * x1 + x2) (by omega) (by omega)
    have e20' := e20 x1 x2 (by omega) (by omega) (by omega) (by omega)
    have hX : J_X11_shift x1 x2 x3 st = some (.inl (g 170 (3 * x1 + x2), q_od (z_up st (20 + x1) x2 x3))) := by
      unfold J_X11_shift
      rw [q_xs (s_index_y ⟨z1, by decide⟩ (by omega)), q_xs (s_range_y ⟨z2, by decide, by decide⟩ c2.1), q_xs (s_range_y ⟨z3, by decide, by decide⟩ c2.2)]
      refine q_of ?_
      simp only [q_g, q_b, q_let, q_ite, q_some, z32, z64, true_or, or_true, true_and, and_true]
      refine ⟨by omega, by omega, by omega, by omega, ?_⟩
      refine q_eq s_outdate ?_
      rw [e20']
    have hL : J_L_shift x1 x2 x3 st = some (0, z_up (q_od (z_up st (20 + x1) x2 x3)) 199 0 (g 170 (3 * x1 + x2))) := by
      unfold J_L_shift
      rw [hX]
      show z_g (z32 (g 170 (3 * x1 + x2))) _ = _
      rw [z_g_pos (show z32 (g 170 (3 * x1 + x2)) from ⟨by omega, by omega⟩)]
    have hj := j_3 (f := q_f4 x1 x2 x3 0) (i := 0) h (q_f4_32 z1 z2 z3 (by decide))
    unfold JL_3 at hj
    exact acc_of hX ⟨by omega, by omega⟩ (m_of (p := (g 170 (3 * x1 + x2), _)) hj F_th (fun s => lw_shift) hL) od_same
  · by_cases c1 : 0 ≤ x1 ∧ x1 ≤ 3
    · refine rfs_of (e := 1) (by decide) (s := st) ?_ h
      unfold J_X11_shift
      rw [q_xs (s_index_y ⟨z1, by decide⟩ (by omega))]
      by_cases c3 : 0 ≤ x2 ∧ x2 ≤ 2
      · rw [q_xs (s_range_y ⟨z2, by decide, by decide⟩ c3), q_xe (s_range_n ⟨z3, by decide, by decide⟩ (fun h9 => c ⟨c1, c3, h9⟩))]
      · rw [q_xe (s_range_n ⟨z2, by decide, by decide⟩ c3)]
    · refine rfs_of (e := 3) (by decide) (s := st) ?_ h
      unfold J_X11_shift
      rw [q_xe (s_index_n ⟨z1, by decide⟩ (by omega))]
-- sound
theorem d_sound {g st : z_St} (h : q_INV g st) {x1 x2 x3 x4 : Int} (z1 : z32 x1) (z2 : z32 x2) (z3 : z32 x3) (z4 : z32 x4) (c : q_tri x1 x2 x3) (c4 : 1 ≤ x4 ∧ x4 ≤ 99) (c6 : g 168 11 < 6) : q_ok (J_L_does 3 x1 x2 x3 x4 st) (q_acc (g 168 11) (z_up (z_up (z_up (z_up (z_up st (29 + 5 * g 168 11 + 1) 0 x1) (29 + 5 * g 168 11 + 1) 1 x2) (29 + 5 * g 168 11 + 1) 2 x3) (29 + 5 * g 168 11) 1 x4) 24 1 (g 168 11 + 1))) := by
  have hn1 := h.2.1.2.2.1.1
  have e24 := h.2.2.1.2.2.1.1
  obtain ⟨n, hn⟩ : ∃ n, g 168 11 = n := ⟨_, rfl⟩
  rw [hn] at e24 hn1 c6 ⊢
  obtain ⟨s1, hs1⟩ : ∃ s1, s1 = z_up (z_up (z_up (z_up (z_up st (29 + 5 * n + 1) 0 x1) (29 + 5 * n + 1) 1 x2) (29 + 5 * n + 1) 2 x3) (29 + 5 * n) 1 x4) 24 1 (n + 1) := ⟨_, rfl⟩
  rw [← hs1]
  have hX : J_X11_sound x1 x2 x3 x4 st = some (.inl (n, q_od s1)) := by
    unfold J_X11_sound
    rw [q_xs (s_triple_y c), q_xs (s_range_y ⟨z4, by decide, by decide⟩ c4), e24]
    refine q_of ?_
    simp only [J_X11_setTriple, q_g, q_b, q_let, q_ite, q_some, z32, z64, true_or, or_true, true_and, and_true]
    simp (disch := omega) only [q_up_row, q_od_row, z_up_at, q_up_ne, e24]
    rw [← hs1]
    refine ⟨by omega, fun _ => ⟨by omega, by decide, by decide, by decide, q_eq s_outdate ?_⟩, fun h9 => by omega⟩
    have : q_od s1 24 1 = n + 1 := by rw [hs1]; simp (disch := omega) only [q_up_row, q_od_row, z_up_at, q_up_ne]
    rw [this, show n + 1 - 1 = n by omega]
  have hL : J_L_sound x1 x2 x3 x4 st = some (0, z_up (q_od s1) 199 0 n) := by
    unfold J_L_sound
    rw [hX]
    show z_g (z32 n) _ = _
    rw [z_g_pos (show z32 n from ⟨by omega, by omega⟩)]
  have hj := j_6 (f := q_f4 x1 x2 x3 x4) (i := 0) h (q_f4_32 z1 z2 z3 z4)
  unfold JL_6 at hj
  exact acc_of hX ⟨by omega, by omega⟩ (m_of (p := (n, _)) hj F_th (fun s => lw_sound) hL) od_same
-- question
theorem d_question {g st : z_St} (h : q_INV g st) {x1 x2 x3 x4 : Int} (z1 : z32 x1) (z2 : z32 x2) (z3 : z32 x3) (z4 : z32 x4) : ((0 ≤ x1 ∧ x1 < g 168 11) ∧ ((0 ≤ x2 ∧ x2 ≤ 1) ∧ (0 ≤ x3 ∧ x3 ≤ 63) ∧ (-3000 ≤ x4 ∧ x4 ≤ 3000)) ∧ g 173 x1 < 3 → q_ok (J_L_does 4 x1 x2 x3 x4 st) (q_acc (g 173 x1 + 1) (z_up (z_up (z_up (z_up st (29 + 5 * x1 + 2) (g 173 x1) x2) (29 + 5 * x1 + 3) (g 173 x1) x3) (29 + 5 * x1 + 4) (g 173 x1) x4) (29 + 5 * x1) 5 (g 173 x1 + 1)))) ∧ (¬ ((0 ≤ x1 ∧ x1 < g 168 11) ∧ ((0 ≤ x2 ∧ x2 ≤ 1) ∧ (0 ≤ x3 ∧ x3 ≤ 63) ∧ (-3000 ≤ x4 ∧ x4 ≤ 3000)) ∧ g 173 x1 < 3) → q_ok (J_L_does 4 x1 x2 x3 x4 st) (q_rfs g)) := by
  have hn1 := h.2.1.2.2.1.1
  have e24 := h.2.2.1.2.2.1.1
  have zn : z32 x1 ∧ z32 (st 24 1) := ⟨z1, by rw [e24]; exact ⟨by omega, by omega⟩⟩
  by_cases c1 : 0 ≤ x1 ∧ x1 < g 168 11
  · have hq3 := h.2.1.2.2.1.2.2.2.1 x1 (by omega) (by omega)
    have eq5 := (h.2.2.1.2.2.1.2.1 x1 (by omega) (by omega)).1
    obtain ⟨n, hn⟩ : ∃ n, g 173 x1 = n := ⟨_, rfl⟩
    rw [hn] at hq3 eq5 ⊢
    refine ⟨fun c => ?_, fun c => ?_⟩
    · obtain ⟨_, c2, c3⟩ := c
      obtain ⟨s1, hs1⟩ : ∃ s1, s1 = z_up (z_up (z_up (z_up st (29 + 5 * x1 + 2) n x2) (29 + 5 * x1 + 3) n x3) (29 + 5 * x1 + 4) n x4) (29 + 5 * x1) 5 (n + 1) := ⟨_, rfl⟩
      rw [← hs1]
      have hX : J_X11_question x1 x2 x3 x4 st = some (.inl (n + 1, q_od s1)) := by
        unfold J_X11_question
        rw [q_xs (s_index_y zn (by omega)), q_xs (s_range_y ⟨z2, by decide, by decide⟩ c2.1), q_xs (s_range_y ⟨z3, by decide, by decide⟩ c2.2.1), q_xs (s_range_y ⟨z4, by decide, by decide⟩ c2.2.2), eq5]
        refine q_of ?_
        simp only [J_X9_ask, q_g, q_b, q_let, q_ite, q_some, z32, z64, true_or, or_true, true_and, and_true]
        simp (disch := omega) only [q_up_row, q_od_row, z_up_at, q_up_ne, eq5]
        rw [← hs1]
        refine ⟨by omega, by omega, fun _ => ⟨by omega, by omega, by omega, q_eq s_outdate ?_⟩, fun h9 => by omega⟩
        have : q_od s1 (29 + 5 * x1) 5 = n + 1 := by rw [hs1]; simp (disch := omega) only [q_up_row, q_od_row, z_up_at, q_up_ne]
        rw [this]
      have hL : J_L_question x1 x2 x3 x4 st = some (0, z_up (q_od s1) 199 0 (n + 1)) := by
        unfold J_L_question
        rw [hX]
        show z_g (z32 (n + 1)) _ = _
        rw [z_g_pos (show z32 (n + 1) from ⟨by omega, by omega⟩)]
      have hj := j_7 (f := q_f4 x1 x2 x3 x4) (i := 0) h (q_f4_32 z1 z2 z3 z4)
      unfold JL_7 at hj
      exact acc_of hX ⟨by omega, by omega⟩ (m_of (p := (n + 1, _)) hj F_th (fun s => lw_question) hL) od_same
    · by_cases c2 : (0 ≤ x2 ∧ x2 ≤ 1) ∧ (0 ≤ x3 ∧ x3 ≤ 63) ∧ (-3000 ≤ x4 ∧ x4 ≤ 3000)
      · refine rfs_of (e := 2) (by decide) (s := st) ?_ h
        have c3 : n = 3 := by
          by_cases c3 : n < 3
          · exact absurd ⟨c1, c2, c3⟩ c
          · omega
        unfold J_X11_question
        rw [q_xs (s_index_y zn (by omega)), q_xs (s_range_y ⟨z2, by decide, by decide⟩ c2.1), q_xs (s_range_y ⟨z3, by decide, by decide⟩ c2.2.1), q_xs (s_range_y ⟨z4, by decide, by decide⟩ c2.2.2), eq5, c3]
        unfold z_g
        rw [if_pos (show 0 ≤ x1 ∧ x1 < 6 by omega)]
        rfl
      · refine rfs_of (e := 1) (by decide) (s := st) ?_ h
        unfold J_X11_question
        rw [q_xs (s_index_y zn (by omega))]
        by_cases d2 : 0 ≤ x2 ∧ x2 ≤ 1
        · rw [q_xs (s_range_y ⟨z2, by decide, by decide⟩ d2)]
          by_cases d3 : 0 ≤ x3 ∧ x3 ≤ 63
          · rw [q_xs (s_range_y ⟨z3, by decide, by decide⟩ d3), q_xe (s_range_n ⟨z4, by decide, by decide⟩ (fun h9 => c2 ⟨d2, d3, h9⟩))]
          · rw [q_xe (s_range_n ⟨z3, by decide, by decide⟩ d3)]
        · rw [q_xe (s_range_n ⟨z2, by decide, by decide⟩ d2)]
  · refine ⟨fun c => absurd c.1 c1, fun _ => rfs_of (e := 3) (by decide) (s := st) ?_ h⟩
    unfold J_X11_question
    rw [q_xe (s_index_n zn (by omega))]
-- type
theorem d_type {g st : z_St} (h : q_INV g st) {x b c d : Int} (zx : z32 x) (hcv : z_i2cv x = x) : (97 ≤ x ∧ x ≤ 102 ∧ g 168 13 < 4 → q_ok (J_L_does 5 x b c d st) (q_acc (g 168 13 + 1) (z_up (z_up st 28 (g 168 13) (x - 97)) 24 6 (g 168 13 + 1)))) ∧ (¬ (97 ≤ x ∧ x ≤ 102 ∧ g 168 13 < 4) → q_ok (J_L_does 5 x b c d st) (q_rfs g)) := by
  have ht1 := h.2.1.2.2.2.1.1
  have e24 := h.2.2.1.2.2.2.1.1
  obtain ⟨n, hn⟩ : ∃ n, g 168 13 = n := ⟨_, rfl⟩
  rw [hn] at ht1 e24 ⊢
  refine ⟨fun c => ?_, fun c => ?_⟩
  · have hX : J_X11_type x st = some (.inl (n + 1, z_up (z_up st 28 n (x - 97)) 24 6 (n + 1))) := by
      unfold J_X11_type
      rw [q_xs (s_range_y ⟨zx, by decide, by decide⟩ ⟨c.1, c.2.1⟩), e24]
      refine q_of ?_
      simp only [q_g, q_b, q_let, q_ite, q_some, z32, z64, true_or, or_true, true_and, and_true]
      simp (disch := omega) only [q_up_row, z_up_at, e24]
      exact ⟨by omega, fun _ => ⟨by omega, trivial⟩, fun h9 => by omega⟩
    have hL : J_L_type x st = some (0, z_up (z_up (z_up st 28 n (x - 97)) 24 6 (n + 1)) 199 0 (n + 1)) := by
      unfold J_L_type
      rw [hX]
      show z_g (z32 (n + 1)) _ = _
      rw [z_g_pos (show z32 (n + 1) from ⟨by omega, by omega⟩)]
    have hj := j_8 (f := q_f4 x 0 0 0) (i := 0) h (q_f4_32 zx (by decide) (by decide) (by decide))
    unfold JL_8 at hj
    rw [show z_i2cv (q_f4 x 0 0 0 (0 + 1)) = x from hcv] at hj
    show q_ok (z_xd (J_X11_type (z_i2cv x) st) _) _
    rw [hcv]
    exact acc_of hX ⟨by omega, by omega⟩ (m_of (p := (n + 1, _)) hj F_th (fun s => lw_type) hL) (fun y _ _ _ _ _ => rfl)
  · show q_ok (z_xd (J_X11_type (z_i2cv x) st) _) _
    rw [hcv]
    by_cases c1 : 97 ≤ x ∧ x ≤ 102
    · refine rfs_of (e := 2) (by decide) (s := st) ?_ h
      have c4 : n = 4 := by omega
      unfold J_X11_type
      rw [q_xs (s_range_y ⟨zx, by decide, by decide⟩ c1), e24, c4]
      rfl
    · refine rfs_of (e := 1) (by decide) (s := st) ?_ h
      unfold J_X11_type
      rw [q_xe (s_range_n ⟨zx, by decide, by decide⟩ c1)]
-- back, factor
theorem d_back {g st : z_St} (h : q_INV g st) {x b c d : Int} (zx : z32 x) : (0 ≤ x ∧ x ≤ 99999 → q_ok (J_L_does 12 x b c d st) (q_acc (g 168 21) (z_up st 89 4 x))) ∧ (¬ (0 ≤ x ∧ x ≤ 99999) → q_ok (J_L_does 12 x b c d st) (q_rfs g)) := by
  have hb1 := h.2.1.2.2.2.2.2.1.1
  have e89 := h.2.2.1.2.2.2.2.2.2.1
  refine ⟨fun c => ?_, fun c => ?_⟩
  · have hX : J_X11_back x st = some (.inl (g 168 21, q_od (z_up st 89 4 x))) := by
      unfold J_X11_back
      rw [q_xs (s_range_y ⟨zx, by decide, by decide⟩ c)]
      refine q_of ?_
      simp only [q_g, q_b, q_let, q_ite, q_some, z32, z64, true_or, or_true, true_and, and_true]
      refine q_eq s_outdate ?_
      rw [e89]
    have hL : J_L_back x st = some (0, z_up (q_od (z_up st 89 4 x)) 199 0 (g 168 21)) := by
      unfold J_L_back
      rw [hX]
      show z_g (z32 (g 168 21)) _ = _
      rw [z_g_pos (show z32 (g 168 21) from ⟨by omega, by omega⟩)]
    have hj := j_15 (f := q_f4 x 0 0 0) (i := 0) h (q_f4_32 zx (by decide) (by decide) (by decide))
    unfold JL_15 at hj
    exact acc_of hX ⟨by omega, by omega⟩ (m_of (p := (g 168 21, _)) hj F_th (fun s => lw_back) hL) od_same
  · refine rfs_of (e := 1) (by decide) (s := st) ?_ h
    unfold J_X11_back
    rw [q_xe (s_range_n ⟨zx, by decide, by decide⟩ c)]
theorem d_factor {g st : z_St} (h : q_INV g st) {x b c d : Int} (zx : z32 x) : (0 ≤ x ∧ x ≤ 99 → q_ok (J_L_does 13 x b c d st) (q_acc (g 168 22) (z_up st 89 5 x))) ∧ (¬ (0 ≤ x ∧ x ≤ 99) → q_ok (J_L_does 13 x b c d st) (q_rfs g)) := by
  have hb1 := h.2.1.2.2.2.2.2.1.2
  have e89 := h.2.2.1.2.2.2.2.2.2.2.1
  refine ⟨fun c => ?_, fun c => ?_⟩
  · have hX : J_X11_factor x st = some (.inl (g 168 22, q_od (z_up st 89 5 x))) := by
      unfold J_X11_factor
      rw [q_xs (s_range_y ⟨zx, by decide, by decide⟩ c)]
      refine q_of ?_
      simp only [q_g, q_b, q_let, q_ite, q_some, z32, z64, true_or, or_true, true_and, and_true]
      refine q_eq s_outdate ?_
      rw [e89]
    have hL : J_L_factor x st = some (0, z_up (q_od (z_up st 89 5 x)) 199 0 (g 168 22)) := by
      unfold J_L_factor
      rw [hX]
      show z_g (z32 (g 168 22)) _ = _
      rw [z_g_pos (show z32 (g 168 22) from ⟨by omega, by omega⟩)]
    have hj := j_16 (f := q_f4 x 0 0 0) (i := 0) h (q_f4_32 zx (by decide) (by decide) (by decide))
    unfold JL_16 at hj
    exact acc_of hX ⟨by omega, by omega⟩ (m_of (p := (g 168 22, _)) hj F_th (fun s => lw_factor) hL) od_same
  · refine rfs_of (e := 1) (by decide) (s := st) ?_ h
    unfold J_X11_factor
    rw [q_xe (s_range_n ⟨zx, by decide, by decide⟩ c)]
