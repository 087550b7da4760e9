-- BUILDS
def q_B (so ty wo fr sy : Int) (s : z_St) : Prop := (∃ g, q_INV g s) ∧ q_LW 0 0 s ∧ (s 24 1 = so ∧ s 24 6 = ty ∧ s 24 4 = wo ∧ s 1 2 = fr ∧ s 27 0 = sy) ∧ ∀ k, 0 ≤ k → k < ty → s 28 k < so
theorem q_B_0 : q_B 0 0 0 0 0 z_s0 := by
  refine ⟨⟨_, q_0INV⟩, ⟨by decide +kernel, by decide +kernel, by decide +kernel, fun i w a b c d => ?_, fun i w a b c d => ?_, fun s w a b c d => ?_⟩, ⟨by decide +kernel, by decide +kernel, by decide +kernel, by decide +kernel, by decide +kernel⟩, fun k a b => by omega⟩
  · have k : ∀ (i : Fin 16) (w : Fin 3), -20 ≤ z_s0 (3 + (i.val : Int)) (w.val : Int) ∧ z_s0 (3 + (i.val : Int)) (w.val : Int) ≤ 20 := by decide +kernel
    have := k ⟨i.toNat, by omega⟩ ⟨w.toNat, by omega⟩
    dsimp only at this
    rw [show ((i.toNat : Nat) : Int) = i by omega, show ((w.toNat : Nat) : Int) = w by omega] at this
    exact this
  · have k : ∀ (i : Fin 4) (w : Fin 3), -60 ≤ z_s0 (20 + (i.val : Int)) (w.val : Int) ∧ z_s0 (20 + (i.val : Int)) (w.val : Int) ≤ 60 := by decide +kernel
    have := k ⟨i.toNat, by omega⟩ ⟨w.toNat, by omega⟩
    dsimp only at this
    rw [show ((i.toNat : Nat) : Int) = i by omega, show ((w.toNat : Nat) : Int) = w by omega] at this
    exact this
  · have k : ∀ (i : Fin 6) (w : Fin 3), (-20 ≤ z_s0 (29 + 5 * (i.val : Int) + 1) (w.val : Int) ∧ z_s0 (29 + 5 * (i.val : Int) + 1) (w.val : Int) ≤ 20) ∧ (-20 ≤ z_s0 (29 + 5 * (i.val : Int) + 4) (w.val : Int) ∧ z_s0 (29 + 5 * (i.val : Int) + 4) (w.val : Int) ≤ 20) := by decide +kernel
    have := k ⟨s.toNat, by omega⟩ ⟨w.toNat, by omega⟩
    dsimp only at this
    rw [show ((s.toNat : Nat) : Int) = s by omega, show ((w.toNat : Nat) : Int) = w by omega] at this
    exact this
theorem B_acc {v so ty wo fr sy : Int} {s1 : z_St} {r : Int × z_St} (h : q_acc v s1 r) (hl : q_LW 0 0 s1) (h1 : s1 24 1 = so) (h2 : s1 24 6 = ty) (h3 : s1 24 4 = wo) (h4 : s1 1 2 = fr) (h5 : s1 27 0 = sy) (h6 : ∀ k, 0 ≤ k → k < ty → s1 28 k < so) : r.1 = v ∧ q_B so ty wo fr sy r.2 := by
  have e : ∀ y, y = 1 ∨ y = 24 ∨ y = 27 ∨ y = 28 → r.2 y = s1 y := fun y hy => h.2.2 y (by omega) (by omega) (by omega) (by omega) (by omega)
  refine ⟨h.1, h.2.1, q_LW_row hl (fun y hy => h.2.2 y (by omega) (by omega) (by omega) (by omega) (by omega)), ⟨?_, ?_, ?_, ?_, ?_⟩, fun k a b => ?_⟩
  · rw [e 24 (by omega)]; exact h1
  · rw [e 24 (by omega)]; exact h2
  · rw [e 24 (by omega)]; exact h3
  · rw [e 1 (by omega)]; exact h4
  · rw [e 27 (by omega)]; exact h5
  · rw [e 28 (by omega)]; exact h6 k a b
theorem b_sound {k : Int} {s : z_St} (h : q_B k 0 0 0 0 s) (hk : 0 ≤ k ∧ k < 6) {x1 x2 x3 x4 : Int} (b1 : -20 ≤ x1 ∧ x1 ≤ 20) (b2 : -20 ≤ x2 ∧ x2 ≤ 20) (b3 : -20 ≤ x3 ∧ x3 ≤ 20) (b4 : 1 ≤ x4 ∧ x4 ≤ 99) : q_ok (J_L_does 3 x1 x2 x3 x4 s) (fun r => r.1 = k ∧ q_B (k + 1) 0 0 0 0 r.2) := by
  obtain ⟨⟨g, hg⟩, hl, ⟨h1, h2, h3, h4, h5⟩, h6⟩ := h
  have e11 : g 168 11 = k := by rw [← hg.2.2.1.2.2.1.1]; exact h1
  have d := d_sound hg (x1 := x1) (x2 := x2) (x3 := x3) (x4 := x4) ⟨by omega, by omega⟩ ⟨by omega, by omega⟩ ⟨by omega, by omega⟩ ⟨by omega, by omega⟩ (by unfold q_tri; omega) b4 (by omega)
  rw [e11] at d
  refine q_mono d ?_
  intro r hr
  refine B_acc hr ?_ ?_ ?_ ?_ ?_ ?_ (fun k a b => by omega)
  · refine q_LW_up (q_LW_up (q_LW_up (q_LW_up (q_LW_up hl ?_ ?_ ?_ ?_ ?_ ?_) ?_ ?_ ?_ ?_ ?_ ?_) ?_ ?_ ?_ ?_ ?_ ?_) ?_ ?_ ?_ ?_ ?_ ?_) ?_ ?_ ?_ ?_ ?_ ?_ <;> (intros; omega)
  · simp (disch := omega) only [q_up_row, q_od_row, z_up_at, q_up_ne]
  · simp (disch := omega) only [q_up_row, q_od_row, z_up_at, q_up_ne]; exact h2
  · simp (disch := omega) only [q_up_row, q_od_row, z_up_at, q_up_ne]; exact h3
  · simp (disch := omega) only [q_up_row, q_od_row, z_up_at, q_up_ne]; exact h4
  · simp (disch := omega) only [q_up_row, q_od_row, z_up_at, q_up_ne]; exact h5
theorem b_type {so ty wo fr sy : Int} {s : z_St} (h : q_B so ty wo fr sy s) (ht : 0 ≤ ty ∧ ty < 4) {v : Int} (hv : 0 ≤ v ∧ v < so) : q_ok (J_L_ask 5 (97 + v) 0 s) (fun r => r.1 = ty + 1 ∧ q_B so (ty + 1) wo fr sy r.2) := by
  obtain ⟨⟨g, hg⟩, hl, ⟨h1, h2, h3, h4, h5⟩, h6⟩ := h
  have hn := hg.2.1.2.2.1.1
  have e11 : g 168 11 = so := by rw [← hg.2.2.1.2.2.1.1]; exact h1
  have e13 : g 168 13 = ty := by rw [← hg.2.2.1.2.2.2.1.1]; exact h2
  have d := (d_type hg (x := 97 + v) (b := 0) (c := 0) (d := 0) ⟨by omega, by omega⟩ (i2cv_id (by omega))).1 (by omega)
  rw [e13] at d
  refine ask_of (q_mono d ?_)
  intro r hr
  refine B_acc hr ?_ ?_ ?_ ?_ ?_ ?_ (fun k a b => ?_)
  · refine q_LW_up (q_LW_up hl ?_ ?_ ?_ ?_ ?_ ?_) ?_ ?_ ?_ ?_ ?_ ?_ <;> (intros; omega)
  · simp (disch := omega) only [q_up_row, q_od_row, z_up_at, q_up_ne]; exact h1
  · simp (disch := omega) only [q_up_row, q_od_row, z_up_at, q_up_ne]
  · simp (disch := omega) only [q_up_row, q_od_row, z_up_at, q_up_ne]; exact h3
  · simp (disch := omega) only [q_up_row, q_od_row, z_up_at, q_up_ne]; exact h4
  · simp (disch := omega) only [q_up_row, q_od_row, z_up_at, q_up_ne]; exact h5
  · rw [q_up_row (by decide)]
    by_cases e : k = ty
    · subst e; rw [z_up_at]; omega
    · rw [q_up_ne e]; exact h6 k a (by omega)
theorem can_of {g s : z_St} {so ty : Int} (hg : q_INV g s) (h1 : s 24 1 = so) (h2 : s 24 6 = ty) (ht : 1 ≤ ty) (h6 : ∀ k, 0 ≤ k → k < ty → s 28 k < so) : q_can g := by
  have hC := hg.2.2.1
  have e11 : g 168 11 = so := by rw [← hC.2.2.1.1]; exact h1
  have e13 : g 168 13 = ty := by rw [← hC.2.2.2.1.1]; exact h2
  have h4 := hg.2.1.2.2.2.1.1
  refine ⟨by omega, fun k a b => ?_⟩
  rw [← hC.2.2.2.1.2 k a (by omega), e11]
  exact h6 k a (by omega)
theorem b_word {so ty wo fr sy : Int} {s : z_St} (h : q_B so ty wo fr sy s) (ht : 1 ≤ ty) (hw : 0 ≤ wo ∧ wo < 5) {x : Int} (hx : 0 ≤ x ∧ x ≤ 9999) : q_ok (J_L_ask 6 x 0 s) (fun r => r.1 = wo ∧ q_B so 0 (wo + 1) fr (if 0 = wo then 1 else sy) r.2) := by
  obtain ⟨⟨g, hg⟩, hl, ⟨h1, h2, h3, h4, h5⟩, h6⟩ := h
  have hC := hg.2.2.1
  have e18 : g 168 18 = wo := by rw [← hC.2.2.2.2.1.1]; exact h3
  have d := (d_word hg (x := x) (b := 0) (c := 0) (d := 0) ⟨by omega, by omega⟩).1 ⟨hx, can_of hg h1 h2 ht h6, by omega⟩
  rw [e18] at d
  refine ask_of (q_mono d ?_)
  intro r hr
  obtain ⟨s1, s2, s3, s4, s5⟩ := q_ays_spec (st := s) (x := x) (n := g 168 13) (w := wo) (k := 0) (by omega) (by decide)
  refine B_acc hr ?_ ?_ ?_ ?_ ?_ ?_ (fun k a b => by omega)
  · refine q_LW_up (LW_ays hl (by omega) (by decide)) ?_ ?_ ?_ ?_ ?_ ?_ <;> (intros; omega)
  · rw [q_up_ne (by decide), s2 1 (by decide)]; exact h1
  · rw [q_up_ne (by decide)]; exact s3
  · rw [z_up_at]
  · rw [q_up_row (by decide), s1 1 (by decide) (by decide) (by decide)]; exact h4
  · rw [q_up_row (by decide), s4 0]
    by_cases e : (0 : Int) = wo
    · rw [if_pos e, if_pos e]; rfl
    · rw [if_neg e, if_neg e]; exact h5
theorem b_saying {so ty wo fr : Int} {s : z_St} (h : q_B so ty wo fr 1 s) (ht : 1 ≤ ty) (hw : 0 < wo) {x : Int} (hx : 0 ≤ x ∧ x ≤ 9999) : q_ok (J_L_ask 7 0 x s) (fun r => r.1 = ty ∧ q_B so 0 wo fr 2 r.2) := by
  obtain ⟨⟨g, hg⟩, hl, ⟨h1, h2, h3, h4, h5⟩, h6⟩ := h
  have hC := hg.2.2.1
  have e18 : g 168 18 = wo := by rw [← hC.2.2.2.2.1.1]; exact h3
  have e13 : g 168 13 = ty := by rw [← hC.2.2.2.1.1]; exact h2
  have e178 : g 178 0 = 1 := by rw [← hC.2.2.2.2.1.2.1 0 (by decide) (by decide)]; exact h5
  have d := (d_saying hg (w := 0) (x := x) (c0 := 0) (d := 0) (by decide) ⟨by omega, by omega⟩).1 ⟨by omega, hx, can_of hg h1 h2 ht h6, by omega⟩
  rw [e178, e13] at d
  refine ask_of (q_mono d ?_)
  intro r hr
  obtain ⟨s1, s2, s3, s4, s5⟩ := q_ays_spec (st := s) (x := x) (n := ty) (w := 0) (k := 1) (by decide) (by decide)
  refine B_acc hr ?_ ?_ ?_ ?_ ?_ ?_ (fun k a b => by omega)
  · exact LW_ays hl (by decide) (by decide)
  · rw [s2 1 (by decide)]; exact h1
  · exact s3
  · rw [s2 4 (by decide)]; exact h3
  · rw [s1 1 (by decide) (by decide) (by decide)]; exact h4
  · rw [s4 0, if_pos rfl]; rfl
theorem b_frame {so wo fr sy : Int} {s : z_St} {ty : Int} (h : q_B so ty wo fr sy s) (hf : 0 ≤ fr ∧ fr ≤ 5) {x1 x2 x3 : Int} (b1 : -20 ≤ x1 ∧ x1 ≤ 20) (b2 : -20 ≤ x2 ∧ x2 ≤ 20) (b3 : -20 ≤ x3 ∧ x3 ≤ 20) : q_ok (J_L_does 0 x1 x2 x3 0 s) (fun r => r.1 = fr + 1 ∧ q_B so ty wo (fr + 1) sy r.2) := by
  obtain ⟨⟨g, hg⟩, hl, ⟨h1, h2, h3, h4, h5⟩, h6⟩ := h
  have e2 : g 168 2 = fr := by rw [← hg.2.2.1.1.1]; exact h4
  have d := (d_frame hg (x1 := x1) (x2 := x2) (x3 := x3) (d := 0) ⟨by omega, by omega⟩ ⟨by omega, by omega⟩ ⟨by omega, by omega⟩).1 (by unfold q_tri; omega)
  rw [e2] at d
  refine q_mono d ?_
  intro r hr
  refine B_acc hr ?_ ?_ ?_ ?_ ?_ ?_ (fun k a b => ?_)
  · refine q_LW_up (q_LW_up (q_LW_up (q_LW_up hl ?_ ?_ ?_ ?_ ?_ ?_) ?_ ?_ ?_ ?_ ?_ ?_) ?_ ?_ ?_ ?_ ?_ ?_) ?_ ?_ ?_ ?_ ?_ ?_ <;> (intros; omega)
  · simp (disch := omega) only [q_up_row, q_od_row, z_up_at, q_up_ne]; exact h1
  · simp (disch := omega) only [q_up_row, q_od_row, z_up_at, q_up_ne]; exact h2
  · simp (disch := omega) only [q_up_row, q_od_row, z_up_at, q_up_ne]; exact h3
  · simp (disch := omega) only [q_up_row, q_od_row, z_up_at, q_up_ne]
  · simp (disch := omega) only [q_up_row, q_od_row, z_up_at, q_up_ne]; exact h5
  · simp (disch := omega) only [q_up_row, q_od_row, z_up_at, q_up_ne]; exact h6 k a b
theorem b_types {so wo fr sy : Int} {s : z_St} (h : q_B so 0 wo fr sy s) (hs : 1 ≤ so ∧ so ≤ 6) {x : Int} {α : Type} {f : Int × z_St → Option α} {P : α → Prop} (k : ∀ s' ty, 1 ≤ ty → q_B so ty wo fr sy s' → q_ok (f (1, s')) P) : q_ok (z_b (J_L_types x so s) f) P := by
  rw [q_b]
  unfold J_L_types
  refine low_eq (by decide) (fun r1 p1 => ?_)
  rw [q_b]
  refine q_mono (P := fun q : Int × z_St => q.1 = 1 ∧ q_B so (1 + r1) wo fr sy q.2) ?_ ?_
  · refine q_loop (fun q => q.1 = 1 ∧ (0 ≤ q.2.1 ∧ q.2.1 ≤ 1 + r1) ∧ q_B so q.2.1 wo fr sy q.2.2) (fun q => (5 - q.2.1).toNat) ⟨rfl, ⟨by dsimp only; omega, by dsimp only; omega⟩, h⟩ (by show (5 - (0 : Int)).toNat < 1000000; decide) ?_
    rintro ⟨a, b, s1⟩ ⟨i1, i2, i3⟩
    dsimp only at i1 i2 i3
    subst i1
    unfold J_L_types_b14
    dsimp only
    rw [q_g, q_g]
    refine ⟨by omega, ⟨⟨by omega, by omega⟩, by omega, by omega⟩, ?_⟩
    by_cases c : b < 1 + r1
    · rw [if_pos c]
      refine low_eq (by omega) (fun r2 p2 => ?_)
      rw [q_g]
      refine ⟨⟨by omega, by omega⟩, ?_⟩
      rw [q_b]
      refine q_mono (b_type i3 (by omega) p2) ?_
      rintro ⟨v, s2⟩ ⟨j1, j2⟩
      dsimp only at j1 j2 ⊢
      subst j1
      rw [q_g, q_g, if_pos rfl]
      refine ⟨⟨by omega, by omega⟩, ⟨⟨by omega, by omega⟩, by omega, by omega⟩, ?_⟩
      unfold J_L_types_58
      rw [iand11]
      exact ⟨_, rfl, ⟨rfl, ⟨by dsimp only; omega, by dsimp only; omega⟩, j2⟩, by dsimp only; omega⟩
    · rw [if_neg c]
      have e : b = 1 + r1 := by omega
      subst e
      exact ⟨_, rfl, rfl, i3⟩
  · rintro ⟨a, s1⟩ ⟨i1, i2⟩
    dsimp only at i1 i2 ⊢
    subst i1
    rw [q_g]
    exact ⟨Or.inr rfl, _, rfl, k s1 _ (by omega) i2⟩
theorem cell_eq {f : Int → Int} {n k : Int} {st : z_St} {α : Type} {F : Int → Option α} {P : α → Prop} (hk : 0 ≤ k ∧ k ≤ 100) (h : ∀ v, q_ok (F v) P) : q_ok (z_b (J_L_cell f n k st) F) P := by
  rw [q_b]
  unfold J_L_cell
  rw [q_g]
  exact ⟨hk, _, rfl, h _⟩
theorem s_builds {f : Int → Int} {n9 x2 : Int} (h2 : 2 ≤ x2 ∧ x2 ≤ 5) : q_ok (J_L_builds f n9 x2 z_s0) (q_la 2 0) := by
  -- the frames
  have frames : ∀ so ty sy s, q_B so ty 2 0 sy s → q_ok (J_L_builds_244 f n9 x2 1 s) (q_la 2 0) := fun so ty sy s h => by
    unfold J_L_builds_244
    rw [q_b]
    refine q_mono (P := fun q : Int × z_St => q.1 = 1 ∧ q_B so ty 2 x2 sy q.2) ?_ ?_
    · refine q_loop (fun q => q.1 = 1 ∧ (0 ≤ q.2.1 ∧ q.2.1 ≤ x2) ∧ q_B so ty 2 q.2.1 sy q.2.2) (fun q => (9 - q.2.1).toNat) ⟨rfl, ⟨by dsimp only; omega, by dsimp only; omega⟩, h⟩ (by show (9 - (0 : Int)).toNat < 1000000; decide) ?_
      rintro ⟨a, b, s1⟩ ⟨i1, i2, i3⟩
      dsimp only at i1 i2 i3
      subst i1
      unfold J_L_builds_b247
      dsimp only
      rw [q_g, q_g]
      refine ⟨by omega, ⟨⟨by omega, by omega⟩, by omega, by omega⟩, ?_⟩
      by_cases c : b < x2
      · rw [if_pos c]
        refine cell_eq (by omega) (fun r13 => ?_)
        refine low_eq (by decide) (fun r14 p14 => ?_)
        rw [q_g]
        refine ⟨⟨by omega, by omega⟩, ?_⟩
        refine low_eq (by decide) (fun r15 p15 => ?_)
        refine low_eq (by decide) (fun r16 p16 => ?_)
        rw [q_b]
        refine q_mono (b_frame i3 (by omega) (by omega) (by omega) (by omega)) ?_
        rintro ⟨v, s2⟩ ⟨j1, j2⟩
        dsimp only at j1 j2 ⊢
        subst j1
        rw [q_g, q_g, if_pos rfl]
        refine ⟨⟨by omega, by omega⟩, ⟨⟨by omega, by omega⟩, by omega, by omega⟩, ?_⟩
        unfold J_L_builds_319
        rw [iand11]
        exact ⟨_, rfl, ⟨rfl, ⟨by dsimp only; omega, by dsimp only; omega⟩, j2⟩, by dsimp only; omega⟩
      · rw [if_neg c]
        have e : b = x2 := by omega
        subst e
        exact ⟨_, rfl, rfl, i3⟩
    · rintro ⟨a, s1⟩ ⟨i1, i2⟩
      dsimp only at i1 i2 ⊢
      subst i1
      rw [q_g]
      obtain ⟨j1, ⟨l1, l2, l3, l4⟩, ⟨k1, k2, k3, k4, k5⟩, _⟩ := i2
      exact ⟨Or.inr rfl, _, rfl, rfl, j1, l1, (show 2 ≤ s1 24 4 by omega), (show s1 89 3 ≤ 5 * 0 by omega), l4⟩
  unfold J_L_builds
  refine cell_eq (by decide) (fun r1 => ?_)
  refine low_eq (by decide) (fun r2 p2 => ?_)
  rw [q_b]
  refine q_mono (P := fun q : Int × z_St => q.1 = 1 ∧ q_B (2 + r2) 0 0 0 0 q.2) ?_ ?_
  · refine q_loop (fun q => q.1 = 1 ∧ (0 ≤ q.2.1 ∧ q.2.1 ≤ 2 + r2) ∧ q_B q.2.1 0 0 0 0 q.2.2) (fun q => (5 - q.2.1).toNat) ⟨rfl, ⟨by dsimp only; omega, by dsimp only; omega⟩, q_B_0⟩ (by show (5 - (0 : Int)).toNat < 1000000; decide) ?_
    rintro ⟨a, b, s1⟩ ⟨i1, i2, i3⟩
    dsimp only at i1 i2 i3
    subst i1
    unfold J_L_builds_b21
    dsimp only
    rw [q_g, q_g]
    refine ⟨by omega, ⟨⟨by omega, by omega⟩, by omega, by omega⟩, ?_⟩
    by_cases c : b < 2 + r2
    · rw [if_pos c]
      refine cell_eq (by omega) (fun r3 => ?_)
      refine low_eq (by decide) (fun r4 p4 => ?_)
      rw [q_g]
      refine ⟨⟨by omega, by omega⟩, ?_⟩
      refine low_eq (by decide) (fun r5 p5 => ?_)
      refine low_eq (by decide) (fun r6 p6 => ?_)
      refine low_eq (by decide) (fun r7 p7 => ?_)
      rw [q_b]
      refine q_mono (b_sound i3 (by omega) (by omega) (by omega) (by omega) (by omega)) ?_
      rintro ⟨v, s2⟩ ⟨j1, j2⟩
      dsimp only at j1 j2 ⊢
      subst j1
      rw [q_g, q_g, if_pos rfl]
      refine ⟨⟨by omega, by omega⟩, ⟨⟨by omega, by omega⟩, by omega, by omega⟩, ?_⟩
      unfold J_L_builds_102
      rw [iand11]
      exact ⟨_, rfl, ⟨rfl, ⟨by dsimp only; omega, by dsimp only; omega⟩, j2⟩, by dsimp only; omega⟩
    · rw [if_neg c]
      have e : b = 2 + r2 := by omega
      subst e
      exact ⟨_, rfl, rfl, i3⟩
  · rintro ⟨a, s1⟩ ⟨i1, i2⟩
    dsimp only at i1 i2 ⊢
    subst i1
    refine b_types i2 (by omega) (fun s2 ty2 t2 i3 => ?_)
    dsimp only
    rw [q_g, if_neg (by decide)]
    refine ⟨by decide, ?_⟩
    refine low_eq (by decide) (fun r21 p21 => ?_)
    rw [q_g]
    refine ⟨⟨by omega, by omega⟩, ?_⟩
    rw [q_b]
    refine q_mono (b_word i3 t2 (by decide) (by omega)) ?_
    rintro ⟨v, s3⟩ ⟨j1, i4⟩
    dsimp only at j1 i4 ⊢
    subst j1
    rw [q_g, if_pos rfl]
    refine ⟨by decide, ?_⟩
    rw [if_pos rfl] at i4
    refine b_types i4 (by omega) (fun s4 ty4 t4 i5 => ?_)
    dsimp only
    rw [q_g, if_neg (by decide)]
    refine ⟨by decide, ?_⟩
    refine low_eq (by decide) (fun r24 p24 => ?_)
    rw [q_g]
    refine ⟨⟨by omega, by omega⟩, ?_⟩
    rw [q_b]
    refine q_mono (b_word i5 t4 (by decide) (by omega)) ?_
    rintro ⟨v, s5⟩ ⟨j1, i6⟩
    dsimp only at j1 i6 ⊢
    subst j1
    rw [q_g, if_pos (by decide)]
    refine ⟨by decide, ?_⟩
    rw [if_neg (by decide)] at i6
    unfold J_L_builds_187
    refine low_eq (by decide) (fun r11 p11 => ?_)
    rw [q_g, iand11]
    refine ⟨⟨by omega, by omega⟩, ?_⟩
    by_cases c : r11 = 0
    · rw [if_pos c]
      refine b_types i6 (by omega) (fun s6 ty6 t6 i7 => ?_)
      dsimp only
      rw [q_g, if_neg (by decide)]
      refine ⟨by decide, ?_⟩
      refine low_eq (by decide) (fun r19 p19 => ?_)
      rw [q_b]
      refine q_mono (b_saying i7 t6 (by decide) (by omega)) ?_
      rintro ⟨v, s7⟩ ⟨j1, i8⟩
      dsimp only at j1 i8 ⊢
      subst j1
      have hty : v ≤ 4 := by
        obtain ⟨⟨g, hg⟩, _, ⟨_, e6, _⟩, _⟩ := i7
        have := hg.2.1.2.2.2.1.1
        rw [hg.2.2.1.2.2.2.1.1] at e6
        omega
      rw [q_g, if_neg (by omega)]
      refine ⟨⟨⟨by omega, by omega⟩, by decide⟩, ?_⟩
      unfold J_L_builds_241
      rw [iand11]
      exact frames _ _ _ _ i8
    · rw [if_neg c]
      exact frames _ _ _ _ i6
