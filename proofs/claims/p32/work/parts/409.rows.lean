-- THE ROWS: the reference's laysRows
/-- is n the number of a ROW of WORDS 1 .. w? -/
def q_rowB (w n : Nat) : Bool := Nat.ble 1 (n % 10) && (Nat.ble (n % 10) w && (decide (n / 10 = 0) || (Nat.ble 1 (n / 10 % 10) && (Nat.ble (n / 10 % 10) w && (decide (n / 100 = 0) || (Nat.ble 1 (n / 100 % 10) && (Nat.ble (n / 100 % 10) w && (decide (n / 1000 = 0) || (Nat.ble 1 (n / 1000 % 10) && (Nat.ble (n / 1000 % 10) w && decide (n / 10000 = 0)))))))))))
set_option maxRecDepth 100000 in
theorem q_rowB_iff {g : z_St} {n : Nat} (h : 0 ≤ g 168 18 ∧ g 168 18 ≤ 5) : q_rowB (g 168 18).toNat n = true ↔ q_isRow g n := by
  unfold q_rowB
  simp only [Bool.and_eq_true, Bool.or_eq_true, Nat.ble_eq, decide_eq_true_eq]
  have hb := q_many_bd n
  have hm : q_many n = if (n : Int) < 1 then 0 else if (n : Int) < 10 then 1 else if (n : Int) < 100 then 2 else if (n : Int) < 1000 then 3 else if (n : Int) < 10000 then 4 else 0 := rfl
  constructor
  · intro k
    have h4 : (1 ≤ q_many n) := by omega
    refine ⟨h4, fun j j0 j1 => ?_⟩
    unfold q_dig q_ten
    have hj : j = 0 ∨ j = 1 ∨ j = 2 ∨ j = 3 := by omega
    have hq : q_many n = 1 ∨ q_many n = 2 ∨ q_many n = 3 ∨ q_many n = 4 := by omega
    rcases hq with hq | hq | hq | hq <;> rw [hq] at hm ⊢ <;> rcases hj with rfl | rfl | rfl | rfl <;> simp <;> omega
  · rintro ⟨h1, h2⟩
    have hq : q_many n = 1 ∨ q_many n = 2 ∨ q_many n = 3 ∨ q_many n = 4 := by omega
    rcases hq with hq | hq | hq | hq
    · have k0 := h2 0 (by omega) (by omega)
      unfold q_dig q_ten at k0
      rw [hq] at k0 hm
      simp at k0
      omega
    · have k0 := h2 0 (by omega) (by omega)
      have k1 := h2 1 (by omega) (by omega)
      unfold q_dig q_ten at k0 k1
      rw [hq] at k0 k1 hm
      simp at k0 k1
      omega
    · have k0 := h2 0 (by omega) (by omega)
      have k1 := h2 1 (by omega) (by omega)
      have k2 := h2 2 (by omega) (by omega)
      unfold q_dig q_ten at k0 k1 k2
      rw [hq] at k0 k1 k2 hm
      simp at k0 k1 k2
      omega
    · have k0 := h2 0 (by omega) (by omega)
      have k1 := h2 1 (by omega) (by omega)
      have k2 := h2 2 (by omega) (by omega)
      have k3 := h2 3 (by omega) (by omega)
      unfold q_dig q_ten at k0 k1 k2 k3
      rw [hq] at k0 k1 k2 k3 hm
      simp at k0 k1 k2 k3
      omega
/-- the numbers of the ROWS under n, in their order -/
def q_rl (w n : Nat) : List Nat := (List.range n).filter (q_rowB w)
theorem q_rl_succ (w n : Nat) : q_rl w (n + 1) = if q_rowB w n then q_rl w n ++ [n] else q_rl w n := by
  unfold q_rl
  rw [List.range_succ, List.filter_append]
  by_cases h : q_rowB w n = true
  · rw [if_pos h, List.filter_cons_of_pos h]; rfl
  · rw [if_neg h, List.filter_cons_of_neg h]; simp
theorem q_rl_len : ∀ w : Nat, w ≤ 5 → (q_rl w 5556).length ≤ 780 := by
  have h : (List.range 6).all (fun w => Nat.ble (q_rl w 5556).length 780) = true := by decide +kernel
  intro w hw
  have := List.all_eq_true.mp h w (List.mem_range.mpr (by omega))
  exact Nat.ble_eq.mp this
