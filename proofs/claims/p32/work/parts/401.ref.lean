-- THE REFERENCE'S SMALL TEXTS
def q_in (a b c : Int) : Int := if b ≤ a ∧ a ≤ c then 1 else 0
theorem s_X12_in {x1 x3 x5 : Int} {st : z_St} (h : -9223372036854775808 ≤ x1 ∧ x1 ≤ 9223372036854775807 ∧ -9223372036854775808 ≤ x3 ∧ x3 ≤ 9223372036854775807 ∧ -9223372036854775808 ≤ x5 ∧ x5 ≤ 9223372036854775807) : J_X12_in x1 x3 x5 st = some (q_in x1 x3 x5) := by
  refine q_of ?_
  simp only [J_X12_in, J_X12_in_17, J_X12_in_18, q_g, q_b, q_let, q_ite, q_some, z32, z64, true_or, or_true, true_and, and_true, q_in]
  (repeat' (first | omega | (refine And.intro ?_ ?_) | (intro _)))
theorem s_X12_isNumber {x1 : Int} {st : z_St} (h : -2147483648 ≤ x1 ∧ x1 ≤ 2147483647) : J_X12_isNumber x1 st = some (q_in x1 (-30000) 30000) := by
  refine q_of ?_
  simp only [J_X12_isNumber, q_g, q_b, q_let, q_ite, q_some, z32, z64, true_or, or_true, true_and, and_true]
  (repeat' (first | omega | (refine And.intro ?_ ?_) | (intro _) | (refine q_eq (s_X12_in ?_) ?_)))
  all_goals (simp only [q_in]; omega)
theorem s_X12_areNumbers {x1 x2 x3 : Int} {st : z_St} (h : -2147483648 ≤ x1 ∧ x1 ≤ 2147483647 ∧ -2147483648 ≤ x2 ∧ x2 ≤ 2147483647 ∧ -2147483648 ≤ x3 ∧ x3 ≤ 2147483647) : J_X12_areNumbers x1 x2 x3 st = some (if (-30000 ≤ x1 ∧ x1 ≤ 30000) ∧ (-30000 ≤ x2 ∧ x2 ≤ 30000) ∧ (-30000 ≤ x3 ∧ x3 ≤ 30000) then 1 else 0) := by
  refine q_of ?_
  simp only [J_X12_areNumbers, J_X12_areNumbers_28, J_X12_areNumbers_29, q_g, q_b, q_let, q_ite, q_some, z32, z64, true_or, or_true, true_and, and_true]
  (repeat' (first | omega | (refine And.intro ?_ ?_) | (intro _) | (refine q_eq (s_X12_isNumber ?_) ?_)))
  all_goals (simp only [q_in] at *; first | omega | (split <;> omega))
theorem s_X12_isWord {x1 : Int} {st : z_St} (h : -2147483648 ≤ x1 ∧ x1 ≤ 2147483647 ∧ 0 ≤ st 168 18 ∧ st 168 18 ≤ 5) : J_X12_isWord x1 st = some (q_in x1 0 (st 168 18 - 1)) := by
  refine q_of ?_
  simp only [J_X12_isWord, q_g, q_b, q_let, q_ite, q_some, z32, z64, true_or, or_true, true_and, and_true]
  (repeat' (first | omega | (refine And.intro ?_ ?_) | (intro _) | (refine q_eq (s_X12_in ?_) ?_)))
  all_goals (simp only [q_in]; omega)
theorem s_X12_isSound {x1 : Int} {st : z_St} (h : -2147483648 ≤ x1 ∧ x1 ≤ 2147483647 ∧ 0 ≤ st 168 11 ∧ st 168 11 ≤ 6) : J_X12_isSound x1 st = some (q_in x1 0 (st 168 11 - 1)) := by
  refine q_of ?_
  simp only [J_X12_isSound, q_g, q_b, q_let, q_ite, q_some, z32, z64, true_or, or_true, true_and, and_true]
  (repeat' (first | omega | (refine And.intro ?_ ?_) | (intro _) | (refine q_eq (s_X12_in ?_) ?_)))
  all_goals (simp only [q_in]; omega)
theorem s_X12_isEither {x1 : Int} {st : z_St} (h : -2147483648 ≤ x1 ∧ x1 ≤ 2147483647 ∧ 0 ≤ st 168 18 ∧ st 168 18 ≤ 5) : J_X12_isEither x1 st = some (q_in x1 (-1) (st 168 18 - 1)) := by
  refine q_of ?_
  simp only [J_X12_isEither, J_X12_isEither_13, J_X12_isEither_18, q_g, q_b, q_let, q_ite, q_some, z32, z64, true_or, or_true, true_and, and_true]
  (repeat' (first | omega | (refine And.intro ?_ ?_) | (intro _) | (refine q_eq (s_X12_isWord ?_) ?_)))
  all_goals (simp only [q_in] at *; first | omega | (split <;> omega))
theorem s_X12_least {x1 x3 : Int} {st : z_St} (h : -9223372036854775808 ≤ x1 ∧ x1 ≤ 9223372036854775807 ∧ -9223372036854775808 ≤ x3 ∧ x3 ≤ 9223372036854775807) : J_X12_least x1 x3 st = some (if x1 < x3 then x1 else x3) := by
  refine q_of ?_
  simp only [J_X12_least, J_X12_least_11, q_g, q_b, q_let, q_ite, q_some, z32, z64, true_or, or_true, true_and, and_true]
  (repeat' (first | omega | (refine And.intro ?_ ?_) | (intro _)))
theorem s_X12_told {x1 : Int} {st : z_St} (h : -9223372036854775808 ≤ x1 ∧ x1 ≤ 9223372036854775807) : J_X12_told x1 st = some (if x1 < 1000000000000000000 then x1 else -1) := by
  refine q_of ?_
  simp only [J_X12_told, J_X12_told_15, q_g, q_b, q_let, q_ite, q_some, z32, z64, true_or, or_true, true_and, and_true]
  (repeat' (first | omega | (refine And.intro ?_ ?_) | (intro _)))
theorem s_X12_holds {x1 : Int} {st : z_St} (h : -2147483648 ≤ x1 ∧ x1 ≤ 2147483647) : J_X12_holds x1 st = some (if 0 < x1 then 1 else 0, z_up st 168 0 x1) := by
  refine q_of ?_
  simp only [J_X12_holds, J_X12_holds_14, q_g, q_b, q_let, q_ite, q_some, z32, z64, true_or, or_true, true_and, and_true, Prod.mk.injEq, and_true]
  (repeat' (first | omega | (refine And.intro ?_ ?_) | (intro _)))
theorem s_X12_span {x1 x2 x3 : Int} {st : z_St} : J_X12_span x1 x2 x3 st = some (289 * x1 + 17 * x2 + x3) := rfl
theorem s_X12_tableOf {x1 x2 x3 : Int} {st : z_St} (h : 0 ≤ 289 * x1 + 17 * x2 + x3 ∧ 289 * x1 + 17 * x2 + x3 < 1445) : J_X12_tableOf x1 x2 x3 st = some (st 184 (289 * x1 + 17 * x2 + x3)) := by
  refine q_of ?_
  simp only [J_X12_tableOf, q_g, q_b, q_let, q_ite, q_some, z32, z64, true_or, or_true, true_and, and_true]
  (repeat' (first | omega | (refine And.intro ?_ ?_) | (intro _) | (refine q_eq s_X12_span ?_)))
theorem s_X12_end {x1 x2 x3 : Int} {st : z_St} : J_X12_end x1 x2 x3 st = some (20 * x1 + 5 * (x2 - 1) + x3) := rfl
theorem s_X12_row5 {x1 x2 x3 : Int} {st : z_St} : J_X12_row5 x1 x2 x3 st = some (85 * x1 + 5 * x2 + x3) := rfl
theorem s_X12_sizeless {x1 x2 : Int} {st : z_St} (h : 0 ≤ x1 ∧ x1 ≤ 15 ∧ 0 ≤ x2 ∧ x2 ≤ 2 ∧ 0 ≤ st 168 4 ∧ st 168 4 ≤ 3) : J_X12_clean x1 x2 st = some (st 169 (3 * x1 + x2) - st 170 (3 * st 168 4 + x2)) := by
  refine q_of ?_
  simp only [J_X12_clean, q_g, q_b, q_let, q_ite, q_some, z32, z64, true_or, or_true, true_and, and_true]
  (repeat' (first | omega | (refine And.intro ?_ ?_) | (intro _)))
/-- where a SOUND lies in a FORM -/
def q_lies (g : z_St) (s form w : Int) : Int := g 171 (3 * s + w) + (if 0 < form then g 176 (3 * s + form - 1) else 0)
theorem s_X12_lies {x1 x2 x3 : Int} {st : z_St} (h : 0 ≤ x1 ∧ x1 ≤ 5 ∧ 0 ≤ x2 ∧ x2 ≤ 3 ∧ 0 ≤ x3 ∧ x3 ≤ 2) : J_X12_lies x1 x2 x3 st = some (q_lies st x1 x2 x3) := by
  refine q_of ?_
  simp only [J_X12_lies, J_X12_lies_30, q_g, q_b, q_let, q_ite, q_some, z32, z64, true_or, or_true, true_and, and_true, q_lies]
  (repeat' (first | omega | (refine And.intro ?_ ?_) | (intro _)))
theorem q_in_0' {a b c : Int} (h : q_in a b c = 0) : ¬ (b ≤ a ∧ a ≤ c) := by unfold q_in at h; intro k; rw [if_pos k] at h; cases h
theorem q_in_n0 {a b c : Int} (h : ¬ q_in a b c = 0) : b ≤ a ∧ a ≤ c := by
  unfold q_in at h
  by_cases k : b ≤ a ∧ a ≤ c
  · exact k
  · rw [if_neg k] at h; exact absurd rfl h
