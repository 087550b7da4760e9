-- WEIGHS, RISES
theorem iand11 : z_iand 1 1 = 1 := by decide
theorem iand10 : z_iand 1 0 = 0 := by decide
theorem iand01 : z_iand 0 1 = 0 := by decide
theorem iand00 : z_iand 0 0 = 0 := by decide
theorem k_ask {α : Type} {g : z_St} {m a b V : Int} {st : z_St} {f : Int × z_St → Option α} {P : α → Prop} (h : q_ok (J_L_does m a b 0 0 st) (q_ans g V)) (k : ∀ s, q_INV g s → q_ok (f (V, s)) P) : q_ok (z_b (J_L_ask m a b st) f) P := by
  rw [q_b]
  refine q_mono (ask_of h) ?_
  rintro ⟨v, s⟩ ⟨h1, h2⟩
  dsimp only at h1 h2
  subst h2
  exact k s h1
theorem k_does {α : Type} {g : z_St} {m a b c d V : Int} {st : z_St} {f : Int × z_St → Option α} {P : α → Prop} (h : q_ok (J_L_does m a b c d st) (q_ans g V)) (k : ∀ s, q_INV g s → q_ok (f (V, s)) P) : q_ok (z_b (J_L_does m a b c d st) f) P := by
  rw [q_b]
  refine q_mono h ?_
  rintro ⟨v, s⟩ ⟨h1, h2⟩
  dsimp only at h1 h2
  subst h2
  exact k s h1
theorem k_b0 {α : Type} {g : z_St} {st : z_St} {f : Int × z_St → Option α} {P : α → Prop} (h : q_INV g st) (k : ∀ v s, q_INV g s → q_b0 g v → q_ok (f (v, s)) P) : q_ok (z_b (J_L_ask 17 0 0 st) f) P := by
  rw [q_b]
  refine q_mono (b_best0 h) ?_
  rintro ⟨v, s⟩ ⟨h1, h2⟩
  exact k v s h1 h2
theorem q_row_none {g : z_St} (hB : q_RB g) (hn : q_bw g = none) {x : Int} (hx : q_isRow g x) : q_wt g x = none := by
  obtain ⟨n, rfl, _⟩ := q_isRow_nat hx
  obtain ⟨i, hi⟩ := q_row_ix hB hx
  cases hw : q_wt g n with
  | none => rfl
  | some y =>
    obtain ⟨z, hz, _⟩ := e_mins_le (f := q_wl g) (List.getElem?_eq_some_iff.mp hi).1 y (by rw [q_wl_at hi]; exact hw)
    have hz2 : q_bw g = some z := hz
    rw [hn] at hz2; cases hz2
theorem q_row_best {g : z_St} (hB : q_RB g) {b n : Nat} (hb : q_bestRow g b n) : ∃ y, q_wt g n = some y ∧ (0 ≤ y ∧ y ≤ 10000000000000) ∧ ∀ x : Int, q_isRow g x → q_wt g x = none ∨ ∃ z, q_wt g x = some z ∧ y ≤ z ∧ z ≤ 10000000000000 ∧ (y = z → (n : Int) ≤ x) := by
  obtain ⟨h1, y, h2, h3⟩ := hb
  have hyb := q_wl_bd hB b y h2
  refine ⟨y, by rw [← q_wl_at h1]; exact h2, by omega, fun x hx => ?_⟩
  obtain ⟨m, rfl, _⟩ := q_isRow_nat hx
  obtain ⟨i, hi⟩ := q_row_ix hB hx
  cases hw : q_wt g m with
  | none => exact Or.inl rfl
  | some z =>
    have hwl : q_wl g i = some z := by rw [q_wl_at hi]; exact hw
    have hzb := q_wl_bd hB i z hwl
    obtain ⟨k1, k2⟩ := h3 i z (List.getElem?_eq_some_iff.mp hi).1 hwl
    refine Or.inr ⟨z, rfl, k1, by omega, fun e => ?_⟩
    have : ¬ i < b := fun h => by have := k2 h; omega
    have := q_rows_lt2 hi h1
    omega
theorem s_weighs {g st : z_St} (h : q_INV g st) {x1 x2 x3 : Int} (hn : 2 ≤ x3 ∧ x3 ≤ g 168 18) : q_ok (J_L_weighs x1 x2 x3 st) (q_ans g 1) := by
  have hB := h.2.1
  unfold J_L_weighs
  rw [q_b]
  refine s_row hB hn (fun r1 h1 z1 => ?_)
  rw [q_b]
  refine s_row hB hn (fun r2 h2 z2 => ?_)
  have y1 : z32 r1 := ⟨by omega, by omega⟩
  have y2 : z32 r2 := ⟨by omega, by omega⟩
  rw [q_g]
  refine ⟨y1, k_ask (a_weight h y1 h1) (fun s3 i3 => ?_)⟩
  rw [q_g]
  refine ⟨y2, k_ask (a_weight i3 y2 h2) (fun s4 i4 => ?_)⟩
  rw [q_g]
  refine ⟨y1, k_ask (a_weightAnew i4 y1 h1) (fun s5 i5 => ?_)⟩
  dsimp only
  have w1 := e_I_64 (q_wt_bd hB h1) (by decide)
  have w2 := e_I_64 (q_wt_bd hB h2) (by decide)
  have l1 : ¬ e_I (-1) (q_wt g r1) < -1 := by
    rcases e_I_cases (K := -1) (q_wt g r1) with ⟨_, e⟩ | ⟨x, e, e'⟩
    · omega
    · have := q_wt_bd hB h1 x e; omega
  rw [q_g, if_pos rfl, q_g]
  refine ⟨⟨w1, w1⟩, y2, k_ask (a_weightAnew i5 y2 h2) (fun s6 i6 => ?_)⟩
  dsimp only
  rw [q_g, if_pos rfl, q_g, if_neg l1]
  refine ⟨⟨w2, w2⟩, ⟨w1, by decide⟩, ?_⟩
  unfold J_L_weighs_84
  refine k_b0 i6 (fun v s7 i7 hv => ?_)
  rcases hv with ⟨hn, rfl⟩ | ⟨b, n, hb, rfl, hr, n1, n9⟩
  · rw [q_row_none hB hn h1, q_row_none hB hn h2]
    simp only [e_I_none, J_L_weighs, J_L_weighs_118, J_L_weighs_145, J_L_weighs_149, J_L_weighs_150, J_L_weighs_188, J_L_weighs_218, J_L_weighs_222, J_L_weighs_223, J_L_weighs_83, J_L_weighs_84, q_g, q_b, q_let, q_ite, q_some, z32, z64, true_or, or_true, true_and, and_true, iand11, iand10, iand01, iand00]
    (repeat' (first | omega | exact ⟨i7, rfl⟩ | exact ⟨by omega, ⟨i7, rfl⟩⟩ | exact absurd True.intro (by assumption) | refine And.intro ?_ ?_ | intro _))
  · have yn : z32 (n : Int) := ⟨by omega, by omega⟩
    obtain ⟨y, e1, e2, e3⟩ := q_row_best hB hb
    dsimp only
    rw [q_g, if_neg (by omega), q_g]
    refine ⟨yn, yn, k_ask (a_weight i7 yn hr) (fun s8 i8 => ?_)⟩
    dsimp only
    rw [e1, e_I_some]
    have key : ∀ x : Int, q_isRow g x → e_I (-1) (q_wt g x) = -1 ∨ (y ≤ e_I (-1) (q_wt g x) ∧ e_I (-1) (q_wt g x) ≤ 10000000000000 ∧ (y = e_I (-1) (q_wt g x) → (n : Int) ≤ x)) := fun x hx => by
      rcases e3 x hx with e | ⟨z, e, e4, e5⟩
      · rw [e]; exact Or.inl rfl
      · rw [e]; exact Or.inr ⟨e4, e5⟩
    have q1 := key r1 h1
    have q2 := key r2 h2
    generalize e_I (-1) (q_wt g r1) = A at *
    generalize e_I (-1) (q_wt g r2) = B at *
    simp only [J_L_weighs, J_L_weighs_118, J_L_weighs_145, J_L_weighs_149, J_L_weighs_150, J_L_weighs_188, J_L_weighs_218, J_L_weighs_222, J_L_weighs_223, J_L_weighs_83, J_L_weighs_84, q_g, q_b, q_let, q_ite, q_some, z32, z64, true_or, or_true, true_and, and_true, iand11, iand10, iand01, iand00]
    (repeat' (first | omega | exact ⟨i8, rfl⟩ | exact ⟨by omega, ⟨i8, rfl⟩⟩ | exact absurd True.intro (by assumption) | refine And.intro ?_ ?_ | intro _))
theorem s_rises {g st : z_St} (h : q_INV g st) {x : Int} (hx : 0 ≤ x ∧ x ≤ 100000) : q_ok (J_L_rises x st) (q_ans g 1) := by
  have hB := h.2.1
  have hN : q_N g ≤ q_len g := e_cnt_le _
  have hlen := q_len_le hB
  unfold J_L_rises
  refine k_ask (a_sum h (by decide) (by decide)) (fun s1 i1 => ?_)
  rw [q_sum8, q_g]
  refine ⟨⟨by omega, by omega⟩, ?_⟩
  rw [q_b]
  refine q_mono (b_best i1 ⟨by omega, by omega⟩ hx.1) ?_
  rintro ⟨v2, s2⟩ ⟨i2, b2, c2⟩
  dsimp only at i2 b2 c2 ⊢
  rw [q_g]
  refine ⟨⟨by omega, by omega⟩, ?_⟩
  rw [q_b]
  refine q_mono (b_best i2 (x := x + 1) ⟨by omega, by omega⟩ (by omega)) ?_
  rintro ⟨v3, s3⟩ ⟨i3, b3, c3⟩
  dsimp only at i3 b3 c3 ⊢
  rcases b3 with ⟨k1, k, n, m1, m2, m3, rfl, m5⟩ | ⟨k1, rfl⟩
  · rcases b2 with ⟨j1, k', n', p1, p2, p3, rfl, p5⟩ | ⟨j1, _⟩
    · have yn : z32 (n : Int) := ⟨by omega, by omega⟩
      have yn' : z32 (n' : Int) := ⟨by omega, by omega⟩
      have hr := q_rows_isRow hB m1
      have hr' := q_rows_isRow hB p1
      rw [q_g, if_neg (by omega), q_g]
      refine ⟨yn, yn', k_ask (a_weight i3 yn' hr') (fun s4 i4 => ?_)⟩
      rw [q_g]
      refine ⟨yn, k_ask (a_weight i4 yn hr) (fun s5 i5 => ?_)⟩
      dsimp only
      simp only [← q_wl_at m1, ← q_wl_at p1]
      have hk : k < q_len g := (List.getElem?_eq_some_iff.mp m1).1
      have hk' : k' < q_len g := (List.getElem?_eq_some_iff.mp p1).1
      have hlt := q_rows_lt2 p1 m1
      have hah : q_ah g k k' = true := by
        by_cases c : q_ah g k k' = true
        · exact c
        · by_cases c2 : q_ah g k' k = true
          · have := q_rank_lt hk c2; omega
          · rw [q_ah_iff] at c c2
            have : k = k' := by omega
            subst this; omega
      rw [q_ah_iff] at hah
      obtain ⟨A, hA⟩ := Option.ne_none_iff_exists'.mp p2
      obtain ⟨C, hC⟩ := Option.ne_none_iff_exists'.mp m2
      have ba := q_wl_bd hB k' A hA
      have bc := q_wl_bd hB k C hC
      rw [hA, hC] at hah ⊢
      rw [e_I_some, e_I_some] at hah ⊢
      simp only [J_L_rises_75, J_L_rises_61, J_L_rises_82, J_L_rises_83, J_L_rises_147, J_L_rises_151, J_L_rises_152, q_g, q_b, q_let, q_ite, q_some, z32, z64, true_or, or_true, true_and, and_true, iand11]
      (repeat' (first | omega | exact ⟨i5, rfl⟩ | exact ⟨by omega, ⟨i5, rfl⟩⟩ | exact absurd True.intro (by assumption) | refine And.intro ?_ ?_ | intro _))
    · omega
  · have hv : x < q_N g ↔ 0 < v2 := by
      rcases b2 with ⟨j1, k', n', p1, p2, p3, rfl, p5⟩ | ⟨j1, rfl⟩ <;> omega
    simp only [J_L_rises_75, J_L_rises_61, J_L_rises_82, J_L_rises_83, J_L_rises_147, J_L_rises_151, J_L_rises_152, q_g, q_b, q_let, q_ite, q_some, z32, z64, true_or, or_true, true_and, and_true, iand11]
    (repeat' (first | omega | exact ⟨i3, rfl⟩ | exact ⟨by omega, ⟨i3, rfl⟩⟩ | exact absurd True.intro (by assumption) | refine And.intro ?_ ?_ | intro _))
