-- THE START, A STEP, THE RUN
theorem q_0row {x : Int} (h : (3 ≤ x ∧ x ≤ 23) ∨ x = 27 ∨ x = 28 ∨ (29 ≤ x ∧ x ≤ 58 ∧ ¬ (x - 29) % 5 = 0) ∨ (59 ≤ x ∧ x ≤ 88 ∧ ¬ (x - 59) % 3 = 0) ∨ (90 ≤ x ∧ x ≤ 98) ∨ (169 ≤ x ∧ x ≤ 182)) : z_s0 x = fun _ => 0 := by
  unfold z_s0 S_X12 S_X11 S_X6 S_X10 S_X3 S_X8 S_X5 S_X0 S_X2 S_X4 S_X7 S_X9 S_X1
  repeat rw [q_up_row (by omega)]
theorem q_0at : z_s0 1 2 = 0 ∧ z_s0 1 3 = 0 ∧ z_s0 24 1 = 0 ∧ z_s0 24 4 = 0 ∧ z_s0 24 6 = 0 ∧ z_s0 89 3 = 0 ∧ z_s0 89 4 = 500 ∧ z_s0 89 5 = 1 ∧ z_s0 168 2 = 0 ∧ z_s0 168 4 = 0 ∧ z_s0 168 11 = 0 ∧ z_s0 168 13 = 0 ∧ z_s0 168 18 = 0 ∧ z_s0 168 20 = 0 ∧ z_s0 168 21 = 500 ∧ z_s0 168 22 = 1 := by decide +kernel
theorem q_0x : z_s0 99 4 = 0 ∧ z_s0 134 9 = 0 ∧ z_s0 144 5 = 0 ∧ z_s0 148 3 = 0 ∧ z_s0 134 3 = 138 ∧ z_s0 134 4 = 139 := by decide +kernel
theorem q_0s : z_s0 (29 + 5 * 0) 5 = 0 ∧ z_s0 (29 + 5 * 1) 5 = 0 ∧ z_s0 (29 + 5 * 2) 5 = 0 ∧ z_s0 (29 + 5 * 3) 5 = 0 ∧ z_s0 (29 + 5 * 4) 5 = 0 ∧ z_s0 (29 + 5 * 5) 5 = 0 := by decide +kernel
theorem q_0w : (z_s0 (59 + 3 * 0) 2 = 0 ∧ z_s0 (59 + 3 * 0) 3 = 0) ∧ (z_s0 (59 + 3 * 1) 2 = 0 ∧ z_s0 (59 + 3 * 1) 3 = 0) ∧ (z_s0 (59 + 3 * 2) 2 = 0 ∧ z_s0 (59 + 3 * 2) 3 = 0) ∧ (z_s0 (59 + 3 * 3) 2 = 0 ∧ z_s0 (59 + 3 * 3) 3 = 0) ∧ (z_s0 (59 + 3 * 4) 2 = 0 ∧ z_s0 (59 + 3 * 4) 3 = 0) ∧ (z_s0 (59 + 3 * 5) 2 = 0 ∧ z_s0 (59 + 3 * 5) 3 = 0) ∧ (z_s0 (59 + 3 * 6) 2 = 0 ∧ z_s0 (59 + 3 * 6) 3 = 0) ∧ (z_s0 (59 + 3 * 7) 2 = 0 ∧ z_s0 (59 + 3 * 7) 3 = 0) ∧ (z_s0 (59 + 3 * 8) 2 = 0 ∧ z_s0 (59 + 3 * 8) 3 = 0) ∧ (z_s0 (59 + 3 * 9) 2 = 0 ∧ z_s0 (59 + 3 * 9) 3 = 0) := by decide +kernel
theorem q_0sat {s : Int} (h : 0 ≤ s ∧ s < 6) : z_s0 (29 + 5 * s) 5 = 0 := by
  obtain ⟨h0, h1, h2, h3, h4, h5⟩ := q_0s
  have hs : s = 0 ∨ s = 1 ∨ s = 2 ∨ s = 3 ∨ s = 4 ∨ s = 5 := by omega
  rcases hs with rfl | rfl | rfl | rfl | rfl | rfl <;> assumption
theorem q_0wat {j : Int} (h : 0 ≤ j ∧ j < 10) : z_s0 (59 + 3 * j) 2 = 0 ∧ z_s0 (59 + 3 * j) 3 = 0 := by
  obtain ⟨h0, h1, h2, h3, h4, h5, h6, h7, h8, h9⟩ := q_0w
  have hs : j = 0 ∨ j = 1 ∨ j = 2 ∨ j = 3 ∨ j = 4 ∨ j = 5 ∨ j = 6 ∨ j = 7 ∨ j = 8 ∨ j = 9 := by omega
  rcases hs with rfl | rfl | rfl | rfl | rfl | rfl | rfl | rfl | rfl | rfl <;> assumption
theorem q_0v {x y : Int} (h : (3 ≤ x ∧ x ≤ 23) ∨ x = 27 ∨ x = 28 ∨ (29 ≤ x ∧ x ≤ 58 ∧ ¬ (x - 29) % 5 = 0) ∨ (59 ≤ x ∧ x ≤ 88 ∧ ¬ (x - 59) % 3 = 0) ∨ (90 ≤ x ∧ x ≤ 98) ∨ (169 ≤ x ∧ x ≤ 182)) : z_s0 x y = 0 := by rw [q_0row h]
theorem q_0GG : q_GG z_s0 z_s0 := by
  obtain ⟨a1, a2, a3, a4, a5, a6, a7, a8, a9, a10, a11, a12, a13, a14, a15, a16⟩ := q_0at
  have er : ∀ i, q_row z_s0 i = 0 := fun i => by unfold q_row; rw [q_0row (by omega)]; rfl
  have ec : ∀ i, q_col z_s0 i = 0 := fun i => by unfold q_col; rw [q_0row (by omega)]; rfl
  refine ⟨⟨⟨?_, fun k a b => ?_⟩, ?_, fun k w a b c d => ?_⟩, ⟨⟨?_, fun k a b => ?_⟩, ?_, fun k w a b c d => ?_⟩, ⟨⟨?_, fun k a b => ?_, fun s a b => ?_, fun s a b => ?_, fun k a b => ?_⟩, ?_, fun s a b => ⟨?_, fun w c d => ⟨?_, ?_, ?_, ?_⟩⟩, fun s a b d => ?_⟩, ⟨⟨?_, fun k a b => ?_⟩, ?_, fun k a b => ?_⟩, ⟨⟨?_, fun w a b => ?_, fun w a b => ?_, fun w a b => ?_, fun j a b => ⟨?_, ?_⟩, fun q a b => ?_, fun w k a b c d => ?_⟩, ?_, fun w a b => ?_, fun j a b => ⟨?_, ?_, fun p c d => ?_⟩⟩, ⟨⟨⟨?_, ?_⟩, ?_, fun k a b => ?_, fun x a b => ?_, fun x a b => ?_⟩, ?_, ?_, ?_, fun i j a b c d => ?_, fun i a b => ?_, fun i a b => ?_⟩⟩
  · omega
  · rw [q_0v (by omega)]; decide
  · rw [a1, a9]
  · rw [q_0v (by omega), q_0v (by omega)]
  · omega
  · rw [q_0v (by omega)]; decide
  · rw [a2, a10]
  · rw [q_0v (by omega), q_0v (by omega)]
  · omega
  · rw [q_0v (by omega)]; decide
  · omega
  · rw [q_0v (by omega)]; decide
  · rw [q_0v (by omega), q_0v (by omega), q_0v (by omega)]; decide
  · rw [a3, a11]
  · rw [q_0sat ⟨a, b⟩, q_0v (by omega)]
  · rw [q_0v (by omega), q_0v (by omega)]
  · rw [q_0v (by omega), q_0v (by omega)]
  · rw [q_0v (by omega), q_0v (by omega)]
  · rw [q_0v (by omega), q_0v (by omega)]
  · omega
  · omega
  · rw [q_0v (by omega)]; decide
  · rw [a5, a12]
  · rw [q_0v (by omega), q_0v (by omega)]
  · omega
  · rw [q_0v (by omega)]; decide
  · omega
  · rw [q_0v (by omega)]
  · rw [q_0v (by omega)]; decide
  · rw [q_0v (by omega)]; decide
  · rw [q_0v (by omega)]; decide
  · rw [q_0v (by omega)] at d; omega
  · rw [a4, a13]
  · rw [q_0v (by omega), q_0v (by omega)]
  · rw [(q_0wat ⟨a, b⟩).1, q_0v (by omega)]
  · rw [(q_0wat ⟨a, b⟩).2, q_0v (by omega)]
  · rw [q_0v (by omega), q_0v (by omega)]
  · omega
  · omega
  · omega
  · rw [q_0v (by omega)]; decide
  · rw [er]; omega
  · rw [ec]; omega
  · rw [a6, a14]
  · rw [a7, a15]
  · rw [a8, a16]
  · rw [q_0v (by omega), q_0v (by omega)]
  · rw [er, q_0v (by omega)]
  · rw [ec, q_0v (by omega)]
theorem q_0INV : q_INV z_s0 z_s0 := by
  obtain ⟨hB, hC⟩ := q_GG_iff.mp q_0GG
  obtain ⟨x1, x2, x3, x4, x5, x6⟩ := q_0x
  exact ⟨q_same_refl _, hB, hC, Or.inl x1, Or.inl x2, Or.inl x3, Or.inl x4, Or.inl ⟨x5, x6⟩⟩
