-- LG AND PRICE
def q_z0 : z_St := fun _ _ => 0
def q_lg (n : Int) : Int := (J_X12_lg n q_z0).getD 0
def q_lgT (k : Nat) : Bool := decide (J_X12_lg ((k : Int) + 1) q_z0 = some (q_lg ((k : Int) + 1))) && (decide (J_X2_logarithm ((k : Int) + 1) q_z0 = some (q_lg ((k : Int) + 1))) && (decide (0 ≤ q_lg ((k : Int) + 1)) && (decide (q_lg ((k : Int) + 1) ≤ q_lg ((k : Int) + 2)) && decide (q_lg ((k : Int) + 1) ≤ 100))))
theorem q_lg_all : (List.range 3006).all q_lgT = true := by decide +kernel
theorem q_lg_at {n : Int} (h : 1 ≤ n ∧ n ≤ 3006) (st : z_St) : J_X12_lg n st = some (q_lg n) ∧ J_X2_logarithm n st = some (q_lg n) ∧ 0 ≤ q_lg n ∧ q_lg n ≤ q_lg (n + 1) ∧ q_lg n ≤ 100 := by
  have h1 := List.all_eq_true.mp q_lg_all (n - 1).toNat (List.mem_range.mpr (by omega))
  have e : (((n - 1).toNat : Nat) : Int) + 1 = n := by omega
  have e2 : (((n - 1).toNat : Nat) : Int) + 2 = n + 1 := by omega
  unfold q_lgT at h1
  rw [e, e2] at h1
  simp only [Bool.and_eq_true, decide_eq_true_eq] at h1
  obtain ⟨h1, h2, h3, h4, h5⟩ := h1
  exact ⟨h1, h2, h3, h4, h5⟩
theorem q_lg_mono {a : Int} (ha : 1 ≤ a) : ∀ (k : Nat), a + k ≤ 3007 → q_lg a ≤ q_lg (a + k) := by
  intro k
  induction k with
  | zero => intro _; rw [show a + ((0 : Nat) : Int) = a by omega]; exact Int.le_refl _
  | succ k ih =>
    intro h
    have h1 := (q_lg_at (n := a + k) (by omega) q_z0).2.2.2.1
    rw [show a + ((k + 1 : Nat) : Int) = a + k + 1 by omega]
    exact Int.le_trans (ih (by omega)) h1
theorem q_lg_le {a b : Int} (ha : 1 ≤ a) (hab : a ≤ b) (hb : b ≤ 3007) : q_lg a ≤ q_lg b := by
  have := q_lg_mono ha (b - a).toNat (by omega)
  rw [show a + ((b - a).toNat : Int) = b by omega] at this
  exact this
/-- the PRICE of next behind ahead; 5 stands for START and END -/
def q_price (g : z_St) (a b : Int) : Int := if 0 < g 182 (6 * a + b) then 100 * (q_lg (q_row g a) - q_lg (g 182 (6 * a + b))) else g 168 21 + 100 * (q_lg (g 168 20 + 6) - q_lg (q_col g b + 1))
def q_dear (g : z_St) (a b : Int) : Int := g 168 22 * q_price g a b
theorem q_row_ge {g : z_St} (hp : q_Rp g) {a b : Int} (h : 0 ≤ a ∧ a < 6 ∧ 0 ≤ b ∧ b < 6) : g 182 (6 * a + b) ≤ q_row g a := by
  have k := fun j (h1 : 0 ≤ j) (h2 : j < 6) => hp.2.1 (6 * a + j) (by omega) (by omega)
  have k0 := k 0 (by decide) (by decide)
  have k1 := k 1 (by decide) (by decide)
  have k2 := k 2 (by decide) (by decide)
  have k3 := k 3 (by decide) (by decide)
  have k4 := k 4 (by decide) (by decide)
  have k5 := k 5 (by decide) (by decide)
  unfold q_row
  rw [Int.add_zero] at k0
  have hb : b = 0 ∨ b = 1 ∨ b = 2 ∨ b = 3 ∨ b = 4 ∨ b = 5 := by omega
  rcases hb with rfl | rfl | rfl | rfl | rfl | rfl
  · rw [Int.add_zero]; omega
  all_goals omega
theorem q_col_ge {g : z_St} (hp : q_Rp g) {b : Int} (h : 0 ≤ b ∧ b < 6) : 0 ≤ q_col g b := by
  have k0 := hp.2.1 b (by omega) (by omega)
  have k1 := hp.2.1 (6 + b) (by omega) (by omega)
  have k2 := hp.2.1 (12 + b) (by omega) (by omega)
  have k3 := hp.2.1 (18 + b) (by omega) (by omega)
  have k4 := hp.2.1 (24 + b) (by omega) (by omega)
  have k5 := hp.2.1 (30 + b) (by omega) (by omega)
  unfold q_col
  omega
theorem q_price_bd {g : z_St} (hp : q_Rp g) (hb9 : q_Rb g) {a b : Int} (h : 0 ≤ a ∧ a < 6 ∧ 0 ≤ b ∧ b < 6) : 0 ≤ q_price g a b ∧ q_price g a b ≤ 200000 := by
  have h1 := q_row_ge hp h
  have h2 := q_col_ge hp (b := b) (by omega)
  have h3 := hp.1
  have h4 := hp.2.2.1 a (by omega) (by omega)
  have h5 := hp.2.2.2 b (by omega) (by omega)
  have h6 := hb9.1
  unfold q_price
  split
  · have a1 := q_lg_le (a := g 182 (6 * a + b)) (b := q_row g a) (by omega) h1 (by omega)
    have a2 := (q_lg_at (n := g 182 (6 * a + b)) (by omega) q_z0).2.2
    have a3 := (q_lg_at (n := q_row g a) (by omega) q_z0).2.2
    omega
  · have a1 := q_lg_le (a := q_col g b + 1) (b := g 168 20 + 6) (by omega) (by omega) (by omega)
    have a2 := (q_lg_at (n := q_col g b + 1) (by omega) q_z0).2.2
    have a3 := (q_lg_at (n := g 168 20 + 6) (by omega) q_z0).2.2
    omega
theorem q_dear_bd {g : z_St} (hp : q_Rp g) (hb9 : q_Rb g) {a b : Int} (h : 0 ≤ a ∧ a < 6 ∧ 0 ≤ b ∧ b < 6) : 0 ≤ q_dear g a b ∧ q_dear g a b ≤ 19800000 := by
  have h1 := q_price_bd hp hb9 h
  have h2 := hb9.2
  unfold q_dear
  exact ⟨Int.mul_nonneg h2.1 h1.1, Int.le_trans (Int.mul_le_mul h2.2 h1.2 h1.1 (by decide)) (by decide)⟩
theorem s_X12_priceOf {g st : z_St} (hS : q_same g st) (hp : q_Rp g) (hb9 : q_Rb g) {a b : Int} (h : 0 ≤ a ∧ a < 6 ∧ 0 ≤ b ∧ b < 6) : J_X12_priceOf a b st = some (q_price g a b) := by
  have h1 := q_row_ge hp h
  have h2 := q_col_ge hp (b := b) (by omega)
  have h3 := hp.1
  have h4 := hp.2.2.1 a (by omega) (by omega)
  have h5 := hp.2.2.2 b (by omega) (by omega)
  have h6 := hb9.1
  have h7 := hp.2.1 (6 * a + b) (by omega) (by omega)
  have e182 := hS.1 182 (by decide) (by decide)
  refine q_of ?_
  simp only [J_X12_priceOf, J_X12_priceOf_122, q_g, q_b, q_let, q_ite, q_some, z32, z64, true_or, or_true, true_and, and_true]
  refine q_mono (P := fun x => x.1 = q_row g a ∧ x.2 = q_col g b) ?_ ?_
  · refine q_loop (fun q => 0 ≤ q.2.2 ∧ q.2.2 ≤ 6 ∧ q.1 = (if 0 < q.2.2 then g 182 (6 * a) else 0) + (if 1 < q.2.2 then g 182 (6 * a + 1) else 0) + (if 2 < q.2.2 then g 182 (6 * a + 2) else 0) + (if 3 < q.2.2 then g 182 (6 * a + 3) else 0) + (if 4 < q.2.2 then g 182 (6 * a + 4) else 0) + (if 5 < q.2.2 then g 182 (6 * a + 5) else 0) ∧ q.2.1 = (if 0 < q.2.2 then g 182 b else 0) + (if 1 < q.2.2 then g 182 (6 + b) else 0) + (if 2 < q.2.2 then g 182 (12 + b) else 0) + (if 3 < q.2.2 then g 182 (18 + b) else 0) + (if 4 < q.2.2 then g 182 (24 + b) else 0) + (if 5 < q.2.2 then g 182 (30 + b) else 0)) (fun q => (6 - q.2.2).toNat) ⟨by decide, by decide, by simp, by simp⟩ (by decide) ?_
    rintro ⟨u, v, w⟩ ⟨i1, i2, i3, i4⟩
    dsimp only at i1 i2 i3 i4
    simp only [J_X12_priceOf_b8, q_g, q_b, q_let, q_ite, q_some, z32, z64, true_or, or_true, true_and, and_true]
    rw [e182]
    refine ⟨by omega, fun hlt => ?_, fun hge => ?_⟩
    · refine ⟨by omega, by omega, ?_⟩
      have hw : w = 0 ∨ w = 1 ∨ w = 2 ∨ w = 3 ∨ w = 4 ∨ w = 5 := by omega
      rcases hw with rfl | rfl | rfl | rfl | rfl | rfl <;> exact ⟨⟨by decide, by decide, by simp [i3], by simp [i4]⟩, by decide⟩
    · have hw : w = 6 := by omega
      subst hw
      exact ⟨by rw [i3]; simp [q_row], by rw [i4]; simp [q_col]⟩
  · rintro ⟨u, v⟩ ⟨e1, e2⟩
    dsimp only at e1 e2
    subst e1 e2
    rw [e182, hS.2 20 (by decide) (by decide), hS.2 21 (by decide) (by decide)]
    refine ⟨by omega, by omega, fun hpos => ?_, fun hno => ?_⟩
    · have a2 := q_lg_at (n := g 182 (6 * a + b)) (by omega) st
      have a3 := q_lg_at (n := q_row g a) (by omega) st
      refine q_eq a3.1 (q_eq a2.1 ⟨by omega, ?_⟩)
      unfold q_price; rw [if_pos hpos]
    · have a2 := q_lg_at (n := q_col g b + 1) (by omega) st
      have a3 := q_lg_at (n := g 168 20 + 6) (by omega) st
      refine ⟨by omega, q_eq a3.1 (q_eq a2.1 ⟨by omega, ?_⟩)⟩
      unfold q_price; rw [if_neg hno]
theorem s_X12_dear {g st : z_St} (hS : q_same g st) (hp : q_Rp g) (hb9 : q_Rb g) {a b : Int} (h : 0 ≤ a ∧ a < 6 ∧ 0 ≤ b ∧ b < 6) : J_X12_dear a b st = some (q_dear g a b) := by
  have h6 := hb9.2
  refine q_of ?_
  simp only [J_X12_dear, q_g, q_b, q_let, q_ite, q_some, z32, z64, true_or, or_true, true_and, and_true]
  rw [hS.2 22 (by decide) (by decide)]
  exact ⟨by omega, q_eq (s_X12_priceOf hS hp hb9 h) rfl⟩
