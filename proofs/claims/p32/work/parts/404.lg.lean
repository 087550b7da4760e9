-- LG AND PRICE
def q_lgN (n : Nat) : Nat := 8 * n.log2 + 8 * n / 2 ^ n.log2
def q_lg (n : Int) : Int := (q_lgN n.toNat : Int) - 8
theorem q_lg_all : (List.range 3006).all (fun k => Nat.ble (q_lgN (k + 1)) (q_lgN (k + 2)) && (Nat.ble 8 (q_lgN (k + 1)) && Nat.ble (q_lgN (k + 1)) 108)) = true := by decide +kernel
theorem q_shr32 {x : Int} (hx : z32 x) : z_ishr x 1 = x / 2 := by
  show ((zI x >>> (zI 1 &&& 31)).toBitVec).toInt = _
  rw [show (zI 1 &&& 31 : Int32) = 1 by decide, Int32.toBitVec_shiftRight, BitVec.toInt_sshiftRight', show ((1 : Int32).toBitVec.smod 32).toNat = 1 by decide]
  show (zI x).toInt >>> 1 = _
  rw [zI_toInt hx, Int.shiftRight_eq_div_pow]
  rfl
theorem q_shr64 {x : Int} (hx : z64 x) {d : Nat} (hd : d ≤ 11) : z_lshr x (d : Int) = x / ((2 ^ d : Nat) : Int) := by
  have key : ∀ c : Int64, ((zI (d : Int)).toInt64 &&& 63) = c → (c.toBitVec.smod 64).toNat = d → z_lshr x (d : Int) = x / ((2 ^ d : Nat) : Int) := fun c h1 h2 => by
    show ((zJ x >>> ((zI (d : Int)).toInt64 &&& 63)).toBitVec).toInt = _
    rw [h1, Int64.toBitVec_shiftRight, BitVec.toInt_sshiftRight', h2]
    show (zJ x).toInt >>> d = _
    rw [zJ_toInt hx, Int.shiftRight_eq_div_pow]
  have hc : d = 0 ∨ d = 1 ∨ d = 2 ∨ d = 3 ∨ d = 4 ∨ d = 5 ∨ d = 6 ∨ d = 7 ∨ d = 8 ∨ d = 9 ∨ d = 10 ∨ d = 11 := by omega
  rcases hc with rfl | rfl | rfl | rfl | rfl | rfl | rfl | rfl | rfl | rfl | rfl | rfl <;> exact key _ rfl (by decide)
theorem s_X12_lg {n : Int} (h : 1 ≤ n ∧ n ≤ 3006) (st : z_St) : J_X12_lg n st = some (q_lg n) := by
  refine q_of ?_
  simp only [J_X12_lg, q_g, q_b, q_let, q_ite, q_some, z32, z64, true_or, or_true, true_and, and_true]
  refine q_mono (P := fun x => x.1 = (n.toNat.log2 : Int) ∧ x.2 = ((2 ^ n.toNat.log2 : Nat) : Int)) ?_ ?_
  · refine q_loop (fun q => ∃ k : Nat, q.1 = (k : Int) ∧ q.2 = ((2 ^ k : Nat) : Int) ∧ 2 ^ k ≤ n.toNat) (fun q => (12 - q.1).toNat) ⟨0, rfl, rfl, by show 1 ≤ n.toNat; omega⟩ (by decide) ?_
    rintro ⟨u, v⟩ ⟨k, i1, i2, i3⟩
    dsimp only at i1 i2
    subst i1 i2
    have hk : k < 12 := by
      apply Nat.lt_of_not_le
      intro hk
      have := Nat.pow_le_pow_right (show 0 < 2 by decide) hk
      omega
    simp only [J_X12_lg_b4, q_g, q_b, q_let, q_ite, q_some, z32, z64, true_or, or_true, true_and, and_true]
    rw [Int.tdiv_eq_ediv_of_nonneg (by omega)]
    have hpow : 2 ^ (k + 1) = 2 * 2 ^ k := by rw [Nat.pow_succ, Nat.mul_comm]
    refine ⟨⟨by omega, by decide⟩, by omega, fun hx => ?_, fun hx => ?_⟩
    · have hl : n.toNat.log2 = k := (Nat.log2_eq_iff (by omega)).mpr ⟨i3, by omega⟩
      rw [hl]; exact ⟨rfl, rfl⟩
    · exact ⟨⟨k + 1, by omega, by omega, by omega⟩, by omega⟩
  · rintro ⟨u, v⟩ ⟨e1, e2⟩
    dsimp only at e1 e2
    subst e1 e2
    have h0 : n.toNat ≠ 0 := by omega
    have hle := (Nat.log2_eq_iff h0).mp rfl
    have hp : 0 < 2 ^ n.toNat.log2 := Nat.two_pow_pos _
    refine ⟨by omega, ?_⟩
    rw [Int.tdiv_eq_ediv_of_nonneg (by omega)]
    unfold q_lg q_lgN
    have e : (8 * n) / ((2 ^ n.toNat.log2 : Nat) : Int) = ((8 * n.toNat / 2 ^ n.toNat.log2 : Nat) : Int) := by
      rw [Int.natCast_ediv]; congr 1; omega
    rw [e]
    omega
theorem s_X2_logarithm {n : Int} (h : 1 ≤ n ∧ n ≤ 3006) (st : z_St) : J_X2_logarithm n st = some (q_lg n) := by
  refine q_of ?_
  simp only [J_X2_logarithm, q_g, q_b, q_let, q_ite, q_some, z32, z64, true_or, or_true, true_and, and_true]
  refine q_mono (P := fun x => x = (n.toNat.log2 : Int)) ?_ ?_
  · refine q_loop (fun q => ∃ k : Nat, q.1 = (k : Int) ∧ q.2 = ((n.toNat / 2 ^ k : Nat) : Int) ∧ 1 ≤ n.toNat / 2 ^ k) (fun q => (12 - q.1).toNat) ⟨0, rfl, by show n = _; rw [Nat.pow_zero, Nat.div_one]; omega, by rw [Nat.pow_zero, Nat.div_one]; omega⟩ (by show (12 - (0 : Int)).toNat < 1000000; decide) ?_
    rintro ⟨u, v⟩ ⟨k, i1, i2, i3⟩
    dsimp only at i1 i2
    subst i1 i2
    have hp : 0 < 2 ^ k := Nat.two_pow_pos _
    have hle : 2 ^ k ≤ n.toNat := by
      apply Nat.le_of_not_lt
      intro hlt
      rw [Nat.div_eq_of_lt hlt] at i3
      omega
    have hk : k < 12 := by
      apply Nat.lt_of_not_le
      intro hk
      have := Nat.pow_le_pow_right (show 0 < 2 by decide) hk
      omega
    have hb : n.toNat / 2 ^ k ≤ n.toNat := Nat.div_le_self _ _
    simp only [J_X2_logarithm_b4, q_g, q_b, q_let, q_ite, q_some, z32, z64, true_or, or_true, true_and, and_true]
    have hpow : 2 ^ (k + 1) = 2 ^ k * 2 := Nat.pow_succ 2 k
    refine ⟨by omega, fun hx => ?_, fun hx => ?_⟩
    · have e : ((n.toNat / 2 ^ k : Nat) : Int) / 2 = ((n.toNat / 2 ^ (k + 1) : Nat) : Int) := by
        rw [hpow, ← Nat.div_div_eq_div_mul]; omega
      have e2 : n.toNat / 2 ^ (k + 1) = n.toNat / 2 ^ k / 2 := by rw [hpow, ← Nat.div_div_eq_div_mul]
      exact ⟨⟨k + 1, by omega, by rw [q_shr32 ⟨by omega, by omega⟩, e], by omega⟩, by omega⟩
    · have h1 : n.toNat / 2 ^ k = 1 := by omega
      have h2 := Nat.lt_mul_div_succ n.toNat hp
      rw [h1] at h2
      have hl : n.toNat.log2 = k := (Nat.log2_eq_iff (by omega)).mpr ⟨hle, by omega⟩
      rw [hl]
  · rintro u rfl
    have h0 : n.toNat ≠ 0 := by omega
    have hle := (Nat.log2_eq_iff h0).mp rfl
    have hk : n.toNat.log2 ≤ 11 := by
      apply Nat.le_of_lt_succ
      exact (Nat.log2_lt h0).mpr (by omega)
    rw [q_shr64 ⟨by omega, by omega⟩ hk]
    refine ⟨by omega, by omega, ?_⟩
    unfold q_lg q_lgN
    have e : (8 * n) / ((2 ^ n.toNat.log2 : Nat) : Int) = ((8 * n.toNat / 2 ^ n.toNat.log2 : Nat) : Int) := by
      rw [Int.natCast_ediv]; congr 1; omega
    rw [e]
    omega
def q_z0 : z_St := fun _ _ => 0
theorem q_lg_at {n : Int} (h : 1 ≤ n ∧ n ≤ 3006) (st : z_St) : J_X12_lg n st = some (q_lg n) ∧ J_X2_logarithm n st = some (q_lg n) ∧ 0 ≤ q_lg n ∧ q_lg n ≤ q_lg (n + 1) ∧ q_lg n ≤ 100 := by
  have h1 := List.all_eq_true.mp q_lg_all (n - 1).toNat (List.mem_range.mpr (by omega))
  have e : (n - 1).toNat + 1 = n.toNat := by omega
  have e2 : (n - 1).toNat + 2 = (n + 1).toNat := by omega
  rw [e, e2] at h1
  simp only [Bool.and_eq_true, Nat.ble_eq] at h1
  unfold q_lg
  exact ⟨s_X12_lg h st, s_X2_logarithm h st, by omega, by omega, by omega⟩
theorem q_lg_mono {a : Int} (ha : 1 ≤ a) : ∀ (k : Nat), a + k ≤ 3007 → q_lg a ≤ q_lg (a + k) := by
  intro k
  induction k with
  | zero => intro _; rw [show a + ((0 : Nat) : Int) = a by omega]; exact Int.le_refl _
  | succ k ih =>
    intro h
    have h1 := (q_lg_at (n := a + k) (by omega) q_z0).2.2.2.1
    rw [show a + ((k + 1 : Nat) : Int) = a + k + 1 by omega]
    exact Int.le_trans (ih (by omega)) h1
theorem q_lg_le {a b : Int} (ha : 1 ≤ a) (hab : a ≤ b) (hb : b ≤ 3007) : q_lg a ≤ q_lg b := by
  have := q_lg_mono ha (b - a).toNat (by omega)
  rw [show a + ((b - a).toNat : Int) = b by omega] at this
  exact this
/-- the PRICE of next behind ahead; 5 stands for START and END -/
def q_price (g : z_St) (a b : Int) : Int := if 0 < g 182 (6 * a + b) then 100 * (q_lg (q_row g a) - q_lg (g 182 (6 * a + b))) else g 168 21 + 100 * (q_lg (g 168 20 + 6) - q_lg (q_col g b + 1))
def q_dear (g : z_St) (a b : Int) : Int := g 168 22 * q_price g a b
theorem q_row_ge {g : z_St} (hp : q_Rp g) {a b : Int} (h : 0 ≤ a ∧ a < 6 ∧ 0 ≤ b ∧ b < 6) : g 182 (6 * a + b) ≤ q_row g a := by
  have k := fun j (h1 : 0 ≤ j) (h2 : j < 6) => hp.2.1 (6 * a + j) (by omega) (by omega)
  have k0 := k 0 (by decide) (by decide)
  have k1 := k 1 (by decide) (by decide)
  have k2 := k 2 (by decide) (by decide)
  have k3 := k 3 (by decide) (by decide)
  have k4 := k 4 (by decide) (by decide)
  have k5 := k 5 (by decide) (by decide)
  unfold q_row
  rw [Int.add_zero] at k0
  have hb : b = 0 ∨ b = 1 ∨ b = 2 ∨ b = 3 ∨ b = 4 ∨ b = 5 := by omega
  rcases hb with rfl | rfl | rfl | rfl | rfl | rfl
  · rw [Int.add_zero]; omega
  all_goals omega
theorem q_col_ge {g : z_St} (hp : q_Rp g) {b : Int} (h : 0 ≤ b ∧ b < 6) : 0 ≤ q_col g b := by
  have k0 := hp.2.1 b (by omega) (by omega)
  have k1 := hp.2.1 (6 + b) (by omega) (by omega)
  have k2 := hp.2.1 (12 + b) (by omega) (by omega)
  have k3 := hp.2.1 (18 + b) (by omega) (by omega)
  have k4 := hp.2.1 (24 + b) (by omega) (by omega)
  have k5 := hp.2.1 (30 + b) (by omega) (by omega)
  unfold q_col
  omega
theorem q_price_bd {g : z_St} (hp : q_Rp g) (hb9 : q_Rb g) {a b : Int} (h : 0 ≤ a ∧ a < 6 ∧ 0 ≤ b ∧ b < 6) : 0 ≤ q_price g a b ∧ q_price g a b ≤ 200000 := by
  have h1 := q_row_ge hp h
  have h2 := q_col_ge hp (b := b) (by omega)
  have h3 := hp.1
  have h4 := hp.2.2.1 a (by omega) (by omega)
  have h5 := hp.2.2.2 b (by omega) (by omega)
  have h6 := hb9.1
  unfold q_price
  split
  · have a1 := q_lg_le (a := g 182 (6 * a + b)) (b := q_row g a) (by omega) h1 (by omega)
    have a2 := (q_lg_at (n := g 182 (6 * a + b)) (by omega) q_z0).2.2
    have a3 := (q_lg_at (n := q_row g a) (by omega) q_z0).2.2
    omega
  · have a1 := q_lg_le (a := q_col g b + 1) (b := g 168 20 + 6) (by omega) (by omega) (by omega)
    have a2 := (q_lg_at (n := q_col g b + 1) (by omega) q_z0).2.2
    have a3 := (q_lg_at (n := g 168 20 + 6) (by omega) q_z0).2.2
    omega
theorem q_dear_bd {g : z_St} (hp : q_Rp g) (hb9 : q_Rb g) {a b : Int} (h : 0 ≤ a ∧ a < 6 ∧ 0 ≤ b ∧ b < 6) : 0 ≤ q_dear g a b ∧ q_dear g a b ≤ 19800000 := by
  have h1 := q_price_bd hp hb9 h
  have h2 := hb9.2
  unfold q_dear
  exact ⟨Int.mul_nonneg h2.1 h1.1, Int.le_trans (Int.mul_le_mul h2.2 h1.2 h1.1 (by decide)) (by decide)⟩
theorem s_X12_priceOf {g st : z_St} (hS : q_same g st) (hp : q_Rp g) (hb9 : q_Rb g) {a b : Int} (h : 0 ≤ a ∧ a < 6 ∧ 0 ≤ b ∧ b < 6) : J_X12_priceOf a b st = some (q_price g a b) := by
  have h1 := q_row_ge hp h
  have h2 := q_col_ge hp (b := b) (by omega)
  have h3 := hp.1
  have h4 := hp.2.2.1 a (by omega) (by omega)
  have h5 := hp.2.2.2 b (by omega) (by omega)
  have h6 := hb9.1
  have h7 := hp.2.1 (6 * a + b) (by omega) (by omega)
  have e182 := hS.1 182 (by decide) (by decide)
  refine q_of ?_
  simp only [J_X12_priceOf, J_X12_priceOf_122, q_g, q_b, q_let, q_ite, q_some, z32, z64, true_or, or_true, true_and, and_true]
  refine q_mono (P := fun x => x.1 = q_row g a ∧ x.2 = q_col g b) ?_ ?_
  · refine q_loop (fun q => 0 ≤ q.2.2 ∧ q.2.2 ≤ 6 ∧ q.1 = (if 0 < q.2.2 then g 182 (6 * a) else 0) + (if 1 < q.2.2 then g 182 (6 * a + 1) else 0) + (if 2 < q.2.2 then g 182 (6 * a + 2) else 0) + (if 3 < q.2.2 then g 182 (6 * a + 3) else 0) + (if 4 < q.2.2 then g 182 (6 * a + 4) else 0) + (if 5 < q.2.2 then g 182 (6 * a + 5) else 0) ∧ q.2.1 = (if 0 < q.2.2 then g 182 b else 0) + (if 1 < q.2.2 then g 182 (6 + b) else 0) + (if 2 < q.2.2 then g 182 (12 + b) else 0) + (if 3 < q.2.2 then g 182 (18 + b) else 0) + (if 4 < q.2.2 then g 182 (24 + b) else 0) + (if 5 < q.2.2 then g 182 (30 + b) else 0)) (fun q => (6 - q.2.2).toNat) ⟨by decide, by decide, by simp, by simp⟩ (by decide) ?_
    rintro ⟨u, v, w⟩ ⟨i1, i2, i3, i4⟩
    dsimp only at i1 i2 i3 i4
    simp only [J_X12_priceOf_b8, q_g, q_b, q_let, q_ite, q_some, z32, z64, true_or, or_true, true_and, and_true]
    rw [e182]
    refine ⟨by omega, fun hlt => ?_, fun hge => ?_⟩
    · refine ⟨by omega, by omega, ?_⟩
      have hw : w = 0 ∨ w = 1 ∨ w = 2 ∨ w = 3 ∨ w = 4 ∨ w = 5 := by omega
      rcases hw with rfl | rfl | rfl | rfl | rfl | rfl <;> exact ⟨⟨by decide, by decide, by simp [i3], by simp [i4]⟩, by decide⟩
    · have hw : w = 6 := by omega
      subst hw
      exact ⟨by rw [i3]; simp [q_row], by rw [i4]; simp [q_col]⟩
  · rintro ⟨u, v⟩ ⟨e1, e2⟩
    dsimp only at e1 e2
    subst e1 e2
    rw [e182, hS.2 20 (by decide) (by decide), hS.2 21 (by decide) (by decide)]
    refine ⟨by omega, by omega, fun hpos => ?_, fun hno => ?_⟩
    · have a2 := q_lg_at (n := g 182 (6 * a + b)) (by omega) st
      have a3 := q_lg_at (n := q_row g a) (by omega) st
      refine q_eq a3.1 (q_eq a2.1 ⟨by omega, ?_⟩)
      unfold q_price; rw [if_pos hpos]
    · have a2 := q_lg_at (n := q_col g b + 1) (by omega) st
      have a3 := q_lg_at (n := g 168 20 + 6) (by omega) st
      refine ⟨by omega, q_eq a3.1 (q_eq a2.1 ⟨by omega, ?_⟩)⟩
      unfold q_price; rw [if_neg hno]
theorem s_X12_dear {g st : z_St} (hS : q_same g st) (hp : q_Rp g) (hb9 : q_Rb g) {a b : Int} (h : 0 ≤ a ∧ a < 6 ∧ 0 ≤ b ∧ b < 6) : J_X12_dear a b st = some (q_dear g a b) := by
  have h6 := hb9.2
  refine q_of ?_
  simp only [J_X12_dear, q_g, q_b, q_let, q_ite, q_some, z32, z64, true_or, or_true, true_and, and_true]
  rw [hS.2 22 (by decide) (by decide)]
  exact ⟨by omega, q_eq (s_X12_priceOf hS hp hb9 h) rfl⟩
