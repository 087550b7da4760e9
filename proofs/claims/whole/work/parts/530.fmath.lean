-- THE FLOAT NEAREST TO A PART
theorem zf_lead {a b : Nat} (hb : 0 < b) (h1 : b ≤ a) (h2 : a < 2 * b) : FP.Core.leading a b = 0 := by
  obtain ⟨l1, l2⟩ := FP.Core.leading_spec (A := a) (B := b) (by omega) hb
  unfold FP.Core.Below at l1 l2
  obtain ⟨k, hk⟩ : ∃ k, FP.Core.leading a b = k := ⟨_, rfl⟩
  rw [hk] at l1 l2 ⊢
  by_cases c1 : 1 ≤ k
  · exfalso
    obtain ⟨j, hj⟩ : ∃ j : Nat, k.toNat = j + 1 := ⟨k.toNat - 1, by omega⟩
    rw [show (-k).toNat = 0 by omega, hj, Nat.pow_succ] at l1
    have h9 := Nat.one_le_two_pow (n := j)
    have : b * 1 ≤ b * 2 ^ j := Nat.mul_le_mul_left b h9
    rw [show b * (2 ^ j * 2) = 2 * (b * 2 ^ j) by rw [← Nat.mul_assoc, Nat.mul_comm]] at l1
    omega
  · by_cases c2 : k ≤ -1
    · exfalso
      rw [show (k + 1).toNat = 0 by omega] at l2
      have h9 := Nat.one_le_two_pow (n := (-(k + 1)).toNat)
      have : a * 1 ≤ a * 2 ^ (-(k + 1)).toNat := Nat.mul_le_mul_left a h9
      omega
    · omega
theorem zf_round {p q n R : Nat} (hq : 0 < q) (hn : n ≤ 20) (h1 : q ≤ p * 2 ^ n) (h2 : p * 2 ^ n < 2 * q) (hR : R = FP.Core.nearest (p * 2 ^ n * 2 ^ 23) q) (hR2 : R < 2 ^ 24) : FP.Core.roundRatio FP.Core.b32 false p q 0 = .fin false R (-(n : Int) - 23) := by
  have hp : p ≠ 0 := fun h => by subst h; rw [Nat.zero_mul] at h1; omega
  rw [FP.Core.roundRatio_congr (A' := p * 2 ^ n) (B' := q) (e' := -(n : Int)) hq hq (by
    rw [show (0 - -(n : Int)).toNat = n by omega, show (-(n : Int) - 0).toNat = 0 by omega, Nat.pow_zero, Nat.mul_one, Nat.mul_right_comm])]
  unfold FP.Core.roundRatio
  rw [if_neg (by omega)]
  have hqu : FP.Core.quantum FP.Core.b32 (p * 2 ^ n) q (-(n : Int)) = -(n : Int) - 23 := by
    unfold FP.Core.quantum
    rw [zf_lead hq h1 h2, show FP.Core.b32.qmin = -149 by decide, show FP.Core.b32.p = 24 from rfl]
    omega
  rw [hqu]
  unfold FP.Core.roundAt FP.Core.unitsNum FP.Core.unitsDen
  rw [show (-(n : Int) - (-(n : Int) - 23)).toNat = 23 by omega, show (-(n : Int) - 23 - -(n : Int)).toNat = 0 by omega, Nat.pow_zero, Nat.mul_one, ← hR]
  unfold FP.Core.settle FP.Core.bound
  rw [if_pos (show R < 2 ^ FP.Core.b32.p from hR2), if_pos (by rw [show FP.Core.b32.qmax = 104 by decide]; omega)]
/-- a whole number as a float -/
theorem zf_i2f {x : Int} (hx : 1 ≤ x ∧ x ≤ 400) : ∃ (c : Nat) (q : Int), FP.Core.val32 (FP.i2f (zI x)) = .fin false c q ∧ c * 2 ^ q.toNat = x.toNat * 2 ^ (-q).toNat := by
  have e1 : (zI x).toInt = x := Int32.toInt_ofInt_of_le (by omega) (by omega)
  have h := FP.Core.i2f_int (a := zI x) (by rw [e1]; omega)
  rw [e1] at h
  unfold FP.Core.FInt at h
  show ∃ (c : Nat) (q : Int), FP.Core.val32 (FP.Core.i2f (zI x)) = _ ∧ _
  cases hv : FP.Core.val32 (FP.Core.i2f (zI x)) with
  | nan => rw [hv] at h; exact False.elim h
  | inf s => rw [hv] at h; exact False.elim h
  | fin s c q =>
    rw [hv] at h
    have h' : FP.Core.signed s (c * 2 ^ q.toNat) = x * ((2 ^ (-q).toNat : Nat) : Int) := h
    have hp := Nat.two_pow_pos (-q).toNat
    have hpos : 0 < x * ((2 ^ (-q).toNat : Nat) : Int) := Int.mul_pos (by omega) (by omega)
    have hxx : x * ((2 ^ (-q).toNat : Nat) : Int) = ((x.toNat * 2 ^ (-q).toNat : Nat) : Int) := by
      rw [Int.natCast_mul, show ((x.toNat : Nat) : Int) = x by omega]
    cases s with
    | true =>
      exfalso
      have : -((c * 2 ^ q.toNat : Nat) : Int) = x * ((2 ^ (-q).toNat : Nat) : Int) := h'
      omega
    | false =>
      refine ⟨c, q, rfl, ?_⟩
      have : ((c * 2 ^ q.toNat : Nat) : Int) = x * ((2 ^ (-q).toNat : Nat) : Int) := h'
      rw [hxx] at this
      exact Int.ofNat.inj this
theorem zf_div {x y : Int} (hx : 1 ≤ x ∧ x ≤ 400) (hy : 1 ≤ y ∧ y ≤ 400) : FP.Core.val32 (FP.fdiv (FP.i2f (zI x)) (FP.i2f (zI y))) = FP.Core.roundRatio FP.Core.b32 false x.toNat y.toNat 0 := by
  obtain ⟨c, q, hc1, hc2⟩ := zf_i2f hx
  obtain ⟨d, r, hd1, hd2⟩ := zf_i2f hy
  show FP.Core.val32 (FP.Core.fdiv (FP.i2f (zI x)) (FP.i2f (zI y))) = _
  rw [FP.Core.val32_fdiv, hc1, hd1]
  have hd0 : d ≠ 0 := fun h => by
    subst h
    rw [Nat.zero_mul] at hd2
    have := Nat.mul_pos (show 0 < y.toNat by omega) (Nat.two_pow_pos (-r).toNat)
    omega
  show (if d = 0 then (if c = 0 then FP.Core.Datum.nan else .inf (false != false)) else FP.Core.roundRatio FP.Core.b32 (false != false) c d (q - r)) = _
  rw [if_neg hd0]
  refine FP.Core.roundRatio_congr (by omega) (by omega) ?_
  -- c * y * 2^u = x * d * 2^v, where u - v = q - r
  have key : c * y.toNat * 2 ^ (q.toNat + (-r).toNat) = x.toNat * d * 2 ^ ((-q).toNat + r.toNat) := by
    rw [Nat.pow_add, Nat.pow_add]
    calc c * y.toNat * (2 ^ q.toNat * 2 ^ (-r).toNat) = (c * 2 ^ q.toNat) * (y.toNat * 2 ^ (-r).toNat) := by
          rw [Nat.mul_mul_mul_comm]
      _ = (x.toNat * 2 ^ (-q).toNat) * (d * 2 ^ r.toNat) := by rw [hc2, hd2]
      _ = x.toNat * d * (2 ^ (-q).toNat * 2 ^ r.toNat) := by rw [Nat.mul_mul_mul_comm]
  obtain ⟨m, hm1, hm2⟩ : ∃ m, q.toNat + (-r).toNat = (q - r - 0).toNat + m ∧ (-q).toNat + r.toNat = (0 - (q - r)).toNat + m := ⟨min (q.toNat + (-r).toNat) ((-q).toNat + r.toNat), by omega, by omega⟩
  rw [hm1, hm2, Nat.pow_add, Nat.pow_add, ← Nat.mul_assoc, ← Nat.mul_assoc] at key
  exact Nat.eq_of_mul_eq_mul_right (Nat.two_pow_pos m) key
theorem zf_n32 {a : UInt32} {s : Bool} {c : Nat} {q : Int} (h : FP.Core.val32 a = .fin s c q) : vf_n32 a := by
  have h1 : a.toNat % 2 ^ 31 ≤ 2139095040 := (FP.Core.ne_nan32 a).mp (by rw [h]; exact fun h9 => nomatch h9)
  unfold vf_n32
  rw [UInt32.le_iff_toNat_le, UInt32.toNat_and]
  show a.toNat &&& (2 ^ 31 - 1) ≤ 2139095040
  rw [Nat.and_two_pow_sub_one_eq_mod]
  exact h1
theorem zf_c1 : FP.Core.val32 FP.fconst1 = .fin false (2 ^ 23) (-23) := by decide +kernel
theorem zf_c2 : FP.Core.val32 FP.fconst2 = .fin false (2 ^ 23) (-22) := by decide +kernel
theorem zf_c8 : FP.Core.val32 1258291200 = .fin false (2 ^ 23) 0 := by decide +kernel
theorem zf_cmp {a : UInt32} {R m : Nat} (h : FP.Core.val32 a = .fin false R (-(m : Int) - 23)) : FP.fcmp a FP.fconst1 = some (compare (R : Int) ((2 ^ 23 * 2 ^ m : Nat) : Int)) := by
  show FP.Core.order (FP.Core.val32 a) (FP.Core.val32 FP.fconst1) = _
  rw [h, zf_c1]
  show some (compare (((FP.Core.inUnits R (-(m : Int) - 23) (min (-(m : Int) - 23) (-23)) : Nat)) : Int) ((FP.Core.inUnits (2 ^ 23) (-23) (min (-(m : Int) - 23) (-23)) : Nat) : Int)) = _
  rw [show min (-(m : Int) - 23) (-23) = -(m : Int) - 23 by omega]
  unfold FP.Core.inUnits
  rw [show (-(m : Int) - 23 - (-(m : Int) - 23)).toNat = 0 by omega, show (-23 - (-(m : Int) - 23)).toNat = m by omega, Nat.pow_zero, Nat.mul_one]
theorem zf_dbl {a : UInt32} {R m : Nat} (hm : m ≤ 20) (hR : 2 ^ 23 ≤ R ∧ R < 2 ^ 24) (h : FP.Core.val32 a = .fin false R (-((m + 1 : Nat) : Int) - 23)) : FP.Core.val32 (FP.fmul a FP.fconst2) = .fin false R (-(m : Int) - 23) := by
  show FP.Core.val32 (FP.Core.fmul a FP.fconst2) = _
  rw [FP.Core.val32_fmul, h, zf_c2]
  show FP.Core.roundRatio FP.Core.b32 (false != false) (R * 2 ^ 23) 1 (-((m + 1 : Nat) : Int) - 23 + -22) = _
  refine FP.Core.roundRatio_exact FP.Core.good_b32 (by decide) ⟨hR.2, by rw [show FP.Core.b32.qmin = -149 by decide]; omega, by rw [show FP.Core.b32.qmax = 104 by decide]; omega, Or.inr hR.1⟩ ?_
  rw [show (-((m + 1 : Nat) : Int) - 23 + -22 - (-(m : Int) - 23)).toNat = 0 by omega, show (-(m : Int) - 23 - (-((m + 1 : Nat) : Int) - 23 + -22)).toNat = 23 by omega, Nat.pow_zero, Nat.mul_one, Nat.mul_one]
theorem zf_sub {a : UInt32} {R : Nat} (hR : 2 ^ 23 ≤ R ∧ R < 2 ^ 24) (h : FP.Core.val32 a = .fin false R (-23)) : FP.Core.val32 (FP.fsub a FP.fconst1) = FP.Core.roundRatio FP.Core.b32 false (R - 2 ^ 23) 1 (-23) := by
  show FP.Core.val32 (FP.Core.fsub a FP.fconst1) = _
  rw [FP.Core.val32_fsub, h, zf_c1]
  have e1 : FP.Core.sumUnits false R (-23) true (2 ^ 23) (-23) (-23) = ((R - 2 ^ 23 : Nat) : Int) := by
    show (((R * 2 ^ ((-23 : Int) - -23).toNat : Nat)) : Int) + -(((2 ^ 23 * 2 ^ ((-23 : Int) - -23).toNat : Nat)) : Int) = _
    rw [show ((-23 : Int) - -23).toNat = 0 from rfl, Nat.pow_zero, Nat.mul_one, Nat.mul_one]
    omega
  show FP.Core.roundRatio FP.Core.b32 (FP.Core.sumSign false true (FP.Core.sumUnits false R (-23) true (2 ^ 23) (-23) (-23))) (FP.Core.sumUnits false R (-23) true (2 ^ 23) (-23) (-23)).natAbs 1 (-23) = _
  rw [e1, Int.natAbs_natCast]
  congr 1
  unfold FP.Core.sumSign
  by_cases c : ((R - 2 ^ 23 : Nat) : Int) = 0
  · rw [if_pos c]; rfl
  · rw [if_neg c]
    exact decide_eq_false (by omega)
/-- a whole number of so many digits, and its float -/
theorem zf_M {M : Nat} (hM : M < 2 ^ 23) {e : Int} (he : -23 ≤ e ∧ e ≤ 0) : ∃ (c : Nat) (q : Int), FP.Core.roundRatio FP.Core.b32 false M 1 e = .fin false c q ∧ -149 ≤ q ∧ q ≤ e ∧ c < 2 ^ 24 ∧ c = M * 2 ^ (e - q).toNat ∧ (M = 0 ∨ (2 ^ 23 ≤ c ∧ -46 ≤ q)) := by
  by_cases h0 : M = 0
  · subst h0
    refine ⟨0, -149, ?_, by omega, by omega, by decide, by rw [Nat.zero_mul], Or.inl rfl⟩
    unfold FP.Core.roundRatio
    rw [if_pos rfl]; rfl
  · have l1 := Nat.log2_self_le h0
    have l2 := Nat.lt_log2_self (n := M)
    obtain ⟨L, hL⟩ : ∃ L, M.log2 = L := ⟨_, rfl⟩
    rw [hL] at l1 l2
    have hL22 : L < 23 := by
      apply Classical.byContradiction
      intro h9
      have := Nat.pow_le_pow_right (n := 2) (by decide) (show 23 ≤ L by omega)
      omega
    obtain ⟨k, hk⟩ : ∃ k, L + k = 23 := ⟨23 - L, by omega⟩
    have c1 : 2 ^ 23 ≤ M * 2 ^ k := by
      rw [← hk, Nat.pow_add]; exact Nat.mul_le_mul_right _ l1
    have c2 : M * 2 ^ k < 2 ^ 24 := by
      have h9 : M * 2 ^ k < 2 ^ (L + 1) * 2 ^ k := Nat.mul_lt_mul_of_pos_right l2 (Nat.two_pow_pos k)
      rw [← Nat.pow_add, show L + 1 + k = 24 by omega] at h9
      exact h9
    refine ⟨M * 2 ^ k, e - k, ?_, by omega, by omega, c2, by rw [show (e - (e - (k : Int))).toNat = k by omega], Or.inr ⟨c1, by omega⟩⟩
    refine FP.Core.roundRatio_exact FP.Core.good_b32 (by decide) ⟨c2, by rw [show FP.Core.b32.qmin = -149 by decide]; omega, by rw [show FP.Core.b32.qmax = 104 by decide]; omega, Or.inr c1⟩ ?_
    rw [show (e - (e - (k : Int))).toNat = k by omega, show (e - (k : Int) - e).toNat = 0 by omega, Nat.pow_zero, Nat.mul_one, Nat.mul_one]
theorem zf_last {a : UInt32} {R : Nat} (hR : 2 ^ 23 ≤ R ∧ R < 2 ^ 24) (h : FP.Core.val32 a = .fin false R (-23)) : (∃ c q, FP.Core.val32 (FP.fsub a FP.fconst1) = .fin false c q) ∧ (∃ c q, FP.Core.val32 (FP.fmul (FP.fsub a FP.fconst1) 1258291200) = .fin false c q) ∧ FP.f2i (FP.fmul (FP.fsub a FP.fconst1) 1258291200) = zI ((R : Int) - 8388608) := by
  obtain ⟨c, q, h1, h2, h3, h4, h5, h6⟩ := zf_M (M := R - 2 ^ 23) (by omega) (e := -23) (by decide)
  have hs := zf_sub hR h
  rw [h1] at hs
  obtain ⟨c', q', k1, k2, k3, k4, k5, k6⟩ := zf_M (M := R - 2 ^ 23) (by omega) (e := 0) (by decide)
  have hm : FP.Core.val32 (FP.fmul (FP.fsub a FP.fconst1) 1258291200) = .fin false c' q' := by
    show FP.Core.val32 (FP.Core.fmul (FP.fsub a FP.fconst1) 1258291200) = _
    rw [FP.Core.val32_fmul, hs, zf_c8]
    show FP.Core.roundRatio FP.Core.b32 (false != false) (c * 2 ^ 23) 1 (q + 0) = _
    rw [← k1]
    refine FP.Core.roundRatio_congr (by decide) (by decide) ?_
    rw [Nat.mul_one, Nat.mul_one, show (q + 0 - 0).toNat = 0 by omega, Nat.pow_zero, Nat.mul_one, h5, Nat.mul_assoc, ← Nat.pow_add]
    congr 2
    omega
  refine ⟨⟨c, q, hs⟩, ⟨c', q', hm⟩, ?_⟩
  show Int32.ofInt (FP.Core.toInt (-2 ^ 31) (2 ^ 31 - 1) (FP.Core.val32 (FP.fmul (FP.fsub a FP.fconst1) 1258291200))) = _
  rw [hm]
  show Int32.ofInt (max (-2 ^ 31) (min (2 ^ 31 - 1) ((c' * 2 ^ q'.toNat / 2 ^ (-q').toNat : Nat) : Int))) = Int32.ofInt ((R : Int) - 8388608)
  have e9 : c' * 2 ^ q'.toNat / 2 ^ (-q').toNat = R - 2 ^ 23 := by
    rw [show q'.toNat = 0 by omega, Nat.pow_zero, Nat.mul_one, k5, show (0 - q').toNat = (-q').toNat by omega]
    exact Nat.mul_div_cancel _ (Nat.two_pow_pos _)
  rw [e9]
  congr 1
  omega
