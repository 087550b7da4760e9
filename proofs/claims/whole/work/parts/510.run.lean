-- THE START, A STEP, THE RUN
theorem q_0row {x : Int} (h : (3 ≤ x ∧ x ≤ 23) ∨ x = 27 ∨ x = 28 ∨ (29 ≤ x ∧ x ≤ 58 ∧ ¬ (x - 29) % 5 = 0) ∨ (59 ≤ x ∧ x ≤ 88 ∧ ¬ (x - 59) % 3 = 0) ∨ (90 ≤ x ∧ x ≤ 98) ∨ (169 ≤ x ∧ x ≤ 182)) : z_s0 x = fun _ => 0 := by
  unfold z_s0 S_X12 S_X11 S_X6 S_X10 S_X3 S_X8 S_X5 S_X0 S_X2 S_X4 S_X7 S_X9 S_X1
  repeat rw [q_up_row (by omega)]
theorem q_0at : z_s0 1 2 = 0 ∧ z_s0 1 3 = 0 ∧ z_s0 24 1 = 0 ∧ z_s0 24 4 = 0 ∧ z_s0 24 6 = 0 ∧ z_s0 89 3 = 0 ∧ z_s0 89 4 = 500 ∧ z_s0 89 5 = 1 ∧ z_s0 168 2 = 0 ∧ z_s0 168 4 = 0 ∧ z_s0 168 11 = 0 ∧ z_s0 168 13 = 0 ∧ z_s0 168 18 = 0 ∧ z_s0 168 20 = 0 ∧ z_s0 168 21 = 500 ∧ z_s0 168 22 = 1 := by decide +kernel
theorem q_0x : z_s0 99 4 = 0 ∧ z_s0 134 9 = 0 ∧ z_s0 144 5 = 0 ∧ z_s0 148 3 = 0 ∧ z_s0 134 3 = 138 ∧ z_s0 134 4 = 139 := by decide +kernel
theorem q_0s : z_s0 (29 + 5 * 0) 5 = 0 ∧ z_s0 (29 + 5 * 1) 5 = 0 ∧ z_s0 (29 + 5 * 2) 5 = 0 ∧ z_s0 (29 + 5 * 3) 5 = 0 ∧ z_s0 (29 + 5 * 4) 5 = 0 ∧ z_s0 (29 + 5 * 5) 5 = 0 := by decide +kernel
theorem q_0w : (z_s0 (59 + 3 * 0) 2 = 0 ∧ z_s0 (59 + 3 * 0) 3 = 0) ∧ (z_s0 (59 + 3 * 1) 2 = 0 ∧ z_s0 (59 + 3 * 1) 3 = 0) ∧ (z_s0 (59 + 3 * 2) 2 = 0 ∧ z_s0 (59 + 3 * 2) 3 = 0) ∧ (z_s0 (59 + 3 * 3) 2 = 0 ∧ z_s0 (59 + 3 * 3) 3 = 0) ∧ (z_s0 (59 + 3 * 4) 2 = 0 ∧ z_s0 (59 + 3 * 4) 3 = 0) ∧ (z_s0 (59 + 3 * 5) 2 = 0 ∧ z_s0 (59 + 3 * 5) 3 = 0) ∧ (z_s0 (59 + 3 * 6) 2 = 0 ∧ z_s0 (59 + 3 * 6) 3 = 0) ∧ (z_s0 (59 + 3 * 7) 2 = 0 ∧ z_s0 (59 + 3 * 7) 3 = 0) ∧ (z_s0 (59 + 3 * 8) 2 = 0 ∧ z_s0 (59 + 3 * 8) 3 = 0) ∧ (z_s0 (59 + 3 * 9) 2 = 0 ∧ z_s0 (59 + 3 * 9) 3 = 0) := by decide +kernel
theorem q_0sat {s : Int} (h : 0 ≤ s ∧ s < 6) : z_s0 (29 + 5 * s) 5 = 0 := by
  obtain ⟨h0, h1, h2, h3, h4, h5⟩ := q_0s
  have hs : s = 0 ∨ s = 1 ∨ s = 2 ∨ s = 3 ∨ s = 4 ∨ s = 5 := by omega
  rcases hs with rfl | rfl | rfl | rfl | rfl | rfl <;> assumption
theorem q_0wat {j : Int} (h : 0 ≤ j ∧ j < 10) : z_s0 (59 + 3 * j) 2 = 0 ∧ z_s0 (59 + 3 * j) 3 = 0 := by
  obtain ⟨h0, h1, h2, h3, h4, h5, h6, h7, h8, h9⟩ := q_0w
  have hs : j = 0 ∨ j = 1 ∨ j = 2 ∨ j = 3 ∨ j = 4 ∨ j = 5 ∨ j = 6 ∨ j = 7 ∨ j = 8 ∨ j = 9 := by omega
  rcases hs with rfl | rfl | rfl | rfl | rfl | rfl | rfl | rfl | rfl | rfl <;> assumption
theorem q_0v {x y : Int} (h : (3 ≤ x ∧ x ≤ 23) ∨ x = 27 ∨ x = 28 ∨ (29 ≤ x ∧ x ≤ 58 ∧ ¬ (x - 29) % 5 = 0) ∨ (59 ≤ x ∧ x ≤ 88 ∧ ¬ (x - 59) % 3 = 0) ∨ (90 ≤ x ∧ x ≤ 98) ∨ (169 ≤ x ∧ x ≤ 182)) : z_s0 x y = 0 := by rw [q_0row h]
theorem q_0GG : q_GG z_s0 z_s0 := by
  obtain ⟨a1, a2, a3, a4, a5, a6, a7, a8, a9, a10, a11, a12, a13, a14, a15, a16⟩ := q_0at
  have er : ∀ i, q_row z_s0 i = 0 := fun i => by unfold q_row; rw [q_0row (by omega)]; rfl
  have ec : ∀ i, q_col z_s0 i = 0 := fun i => by unfold q_col; rw [q_0row (by omega)]; rfl
  refine ⟨⟨⟨?_, fun k a b => ?_⟩, ?_, fun k w a b c d => ?_⟩, ⟨⟨?_, fun k a b => ?_⟩, ?_, fun k w a b c d => ?_⟩, ⟨⟨?_, fun k a b => ?_, fun s a b => ?_, fun s a b => ?_, fun k a b => ?_⟩, ?_, fun s a b => ⟨?_, fun w c d => ⟨?_, ?_, ?_, ?_⟩⟩, fun s a b d => ?_⟩, ⟨⟨?_, fun k a b => ?_⟩, ?_, fun k a b => ?_⟩, ⟨⟨?_, fun w a b => ?_, fun w a b => ?_, fun w a b => ?_, fun j a b => ⟨?_, ?_⟩, fun q a b => ?_, fun w k a b c d => ?_⟩, ?_, fun w a b => ?_, fun j a b => ⟨?_, ?_, fun p c d => ?_⟩⟩, ⟨⟨⟨?_, ?_⟩, ?_, fun k a b => ?_, fun x a b => ?_, fun x a b => ?_⟩, ?_, ?_, ?_, fun i j a b c d => ?_, fun i a b => ?_, fun i a b => ?_⟩⟩
  · omega
  · rw [q_0v (by omega)]; decide
  · rw [a1, a9]
  · rw [q_0v (by omega), q_0v (by omega)]
  · omega
  · rw [q_0v (by omega)]; decide
  · rw [a2, a10]
  · rw [q_0v (by omega), q_0v (by omega)]
  · omega
  · rw [q_0v (by omega)]; decide
  · omega
  · rw [q_0v (by omega)]; decide
  · rw [q_0v (by omega), q_0v (by omega), q_0v (by omega)]; decide
  · rw [a3, a11]
  · rw [q_0sat ⟨a, b⟩, q_0v (by omega)]
  · rw [q_0v (by omega), q_0v (by omega)]
  · rw [q_0v (by omega), q_0v (by omega)]
  · rw [q_0v (by omega), q_0v (by omega)]
  · rw [q_0v (by omega), q_0v (by omega)]
  · omega
  · omega
  · rw [q_0v (by omega)]; decide
  · rw [a5, a12]
  · rw [q_0v (by omega), q_0v (by omega)]
  · omega
  · rw [q_0v (by omega)]; decide
  · omega
  · rw [q_0v (by omega)]
  · rw [q_0v (by omega)]; decide
  · rw [q_0v (by omega)]; decide
  · rw [q_0v (by omega)]; decide
  · rw [q_0v (by omega)] at d; omega
  · rw [a4, a13]
  · rw [q_0v (by omega), q_0v (by omega)]
  · rw [(q_0wat ⟨a, b⟩).1, q_0v (by omega)]
  · rw [(q_0wat ⟨a, b⟩).2, q_0v (by omega)]
  · rw [q_0v (by omega), q_0v (by omega)]
  · omega
  · omega
  · omega
  · rw [q_0v (by omega)]; decide
  · rw [er]; omega
  · rw [ec]; omega
  · rw [a6, a14]
  · rw [a7, a15]
  · rw [a8, a16]
  · rw [q_0v (by omega), q_0v (by omega)]
  · rw [er, q_0v (by omega)]
  · rw [ec, q_0v (by omega)]
theorem q_0INV : q_INV z_s0 z_s0 := by
  obtain ⟨hB, hC⟩ := q_GG_iff.mp q_0GG
  obtain ⟨x1, x2, x3, x4, x5, x6⟩ := q_0x
  exact ⟨q_same_refl _, hB, hC, Or.inl x1, Or.inl x2, Or.inl x3, Or.inl x4, Or.inl ⟨x5, x6⟩⟩
theorem j_step {g st : z_St} {f : Int → Int} {i : Int} (h : q_INV g st) (hc : g 168 20 ≤ 2995) (hf : ∀ j, z32 (f j)) : q_ok (JL_step f i st) (q_out g) := by
  unfold JL_step z_let
  dsimp only
  by_cases c0 : z_iand (f i) 31 = 0
  · rw [if_pos c0]; exact j_0 h hf
  rw [if_neg c0]
  by_cases c1 : z_iand (f i) 31 = 1
  · rw [if_pos c1]; exact j_1 h hf
  rw [if_neg c1]
  by_cases c2 : z_iand (f i) 31 = 2
  · rw [if_pos c2]; exact j_2 h hf
  rw [if_neg c2]
  by_cases c3 : z_iand (f i) 31 = 3
  · rw [if_pos c3]; exact j_3 h hf
  rw [if_neg c3]
  by_cases c4 : z_iand (f i) 31 = 4
  · rw [if_pos c4]; exact q_out_0 (j_4 h hf)
  rw [if_neg c4]
  by_cases c5 : z_iand (f i) 31 = 5
  · rw [if_pos c5]; exact j_5 h hf
  rw [if_neg c5]
  by_cases c6 : z_iand (f i) 31 = 6
  · rw [if_pos c6]; exact j_6 h hf
  rw [if_neg c6]
  by_cases c7 : z_iand (f i) 31 = 7
  · rw [if_pos c7]; exact j_7 h hf
  rw [if_neg c7]
  by_cases c8 : z_iand (f i) 31 = 8
  · rw [if_pos c8]; exact j_8 h hf
  rw [if_neg c8]
  by_cases c9 : z_iand (f i) 31 = 9
  · rw [if_pos c9]; exact j_9 h hf
  rw [if_neg c9]
  by_cases c10 : z_iand (f i) 31 = 10
  · rw [if_pos c10]; exact j_10 h hf
  rw [if_neg c10]
  by_cases c11 : z_iand (f i) 31 = 11
  · rw [if_pos c11]; exact q_out_0 (j_11 h hf)
  rw [if_neg c11]
  by_cases c12 : z_iand (f i) 31 = 12
  · rw [if_pos c12]; exact q_out_0 (j_12 h hf)
  rw [if_neg c12]
  by_cases c13 : z_iand (f i) 31 = 13
  · rw [if_pos c13]; exact q_out_0 (j_13 h hf)
  rw [if_neg c13]
  by_cases c14 : z_iand (f i) 31 = 14
  · rw [if_pos c14]; exact j_14 h hc hf
  rw [if_neg c14]
  by_cases c15 : z_iand (f i) 31 = 15
  · rw [if_pos c15]; exact j_15 h hf
  rw [if_neg c15]
  by_cases c16 : z_iand (f i) 31 = 16
  · rw [if_pos c16]; exact j_16 h hf
  rw [if_neg c16]
  by_cases c17 : z_iand (f i) 31 = 17
  · rw [if_pos c17]; exact q_out_0 (j_17 h hf)
  rw [if_neg c17]
  by_cases c18 : z_iand (f i) 31 = 18
  · rw [if_pos c18]; exact q_out_0 (j_18 h hf)
  rw [if_neg c18]
  by_cases c19 : z_iand (f i) 31 = 19
  · rw [if_pos c19]; exact q_out_0 (j_19 h hf)
  rw [if_neg c19]
  by_cases c20 : z_iand (f i) 31 = 20
  · rw [if_pos c20]; exact q_out_0 (j_20 h hf)
  rw [if_neg c20]
  by_cases c21 : z_iand (f i) 31 = 21
  · rw [if_pos c21]; exact q_out_0 (j_21 h hf)
  rw [if_neg c21]
  by_cases c22 : z_iand (f i) 31 = 22
  · rw [if_pos c22]; exact q_out_0 (j_22 h hf)
  rw [if_neg c22]
  by_cases c23 : z_iand (f i) 31 = 23
  · rw [if_pos c23]; exact q_out_0 (j_23 h hf)
  rw [if_neg c23]
  by_cases c24 : z_iand (f i) 31 = 24
  · rw [if_pos c24]; exact q_out_0 (j_24 h hf)
  rw [if_neg c24]
  by_cases c25 : z_iand (f i) 31 = 25
  · rw [if_pos c25]; exact q_out_0 (j_25 h hf)
  rw [if_neg c25]
  by_cases c26 : z_iand (f i) 31 = 26
  · rw [if_pos c26]; exact q_out_0 (j_26 h hf)
  rw [if_neg c26]
  by_cases c27 : z_iand (f i) 31 = 27
  · rw [if_pos c27]; exact q_out_0 (j_27 h hf)
  rw [if_neg c27]
  by_cases c28 : z_iand (f i) 31 = 28
  · rw [if_pos c28]; exact q_out_0 (j_28 h hf)
  rw [if_neg c28]
  exact ⟨st, rfl, g, h, by omega⟩
theorem j_run {f : Int → Int} {n : Int} (hf : ∀ j, z32 (f j)) (hn : n ≤ 2560) : ∀ (k : Nat) (i : Int) (g st : z_St), q_INV g st → g 168 20 ≤ i → n ≤ i + 5 * k → ∃ o, JL_run f n k i st = some o := by
  intro k
  induction k with
  | zero =>
    intro i g st _ _ h3
    refine ⟨st, ?_⟩
    unfold JL_run
    rw [if_pos (by omega)]
  | succ k ih =>
    intro i g st h1 h2 h3
    unfold JL_run
    by_cases c : n - 5 < i
    · rw [if_pos c]; exact ⟨st, rfl⟩
    · rw [if_neg c]
      obtain ⟨s', e, g', k1, k2⟩ := j_step (i := i) h1 (by omega) hf
      rw [e]
      exact ih (i + 5) g' s' k1 (by omega) (by omega)
theorem whole_start {p : Program} {e : Env} {s : State} {m : MethodId} {below : List Frame} {meth : Method} {c : Code} (l : Launch) (hflags : l.flags = flags0) {b L : Nat} {xs : Nat → Int32} (hL : L ≤ 2560) (C0 : lw_At p s m meth c b L xs) : W p l e room_1 s m #[Value.ref b] below meth c s.heap [] 0 0 (lw_Z below #[Value.ref b] s) (entryFrame m ([Value.ref b] : List Value).toArray 8) := by
  obtain ⟨o, ho⟩ := j_run (f := fun j => (xs j.toNat).toInt) (n := (L : Int)) (fun j => z32_of _) (by omega) 600 0 z_s0 z_s0 q_0INV (by have := q_0at.2.2.2.2.2.2.2.2.2.2.2.2.2.1; omega) (by omega)
  exact z_start l hflags hL C0 ho
