def z_ls : Nat → Int → Int → Int × Int
  | 0, top, _ => (top, 0)
  | n + 1, top, q => if top < q then ((z_ls n (top * 2) q).1, (z_ls n (top * 2) q).2 + 1) else (top, 0)
/-- the bits of the float nearest to p / q, by whole numbers -/
def z_bits (p q : Int) : Int := (127 - (z_ls 20 p q).2) * 8388608 + ((z_ls 20 p q).1 * 8388608 / q + (if q < 2 * ((z_ls 20 p q).1 * 8388608 % q) ∨ (2 * ((z_ls 20 p q).1 * 8388608 % q) = q ∧ (z_ls 20 p q).1 * 8388608 / q % 2 = 1) then 1 else 0)) - 8388608
def J_X11_partBits (x0 x1 : Int) (_ : z_St) : Option Int := z_g (1 ≤ x0 ∧ x0 ≤ x1 ∧ x1 ≤ 400) (some (z_bits x0 x1))
-- THE FLOAT NEAREST TO A PART
theorem zf_lead {a b : Nat} (hb : 0 < b) (h1 : b ≤ a) (h2 : a < 2 * b) : FP.Core.leading a b = 0 := by
  obtain ⟨l1, l2⟩ := FP.Core.leading_spec (A := a) (B := b) (by omega) hb
  unfold FP.Core.Below at l1 l2
  obtain ⟨k, hk⟩ : ∃ k, FP.Core.leading a b = k := ⟨_, rfl⟩
  rw [hk] at l1 l2 ⊢
  by_cases c1 : 1 ≤ k
  · exfalso
    obtain ⟨j, hj⟩ : ∃ j : Nat, k.toNat = j + 1 := ⟨k.toNat - 1, by omega⟩
    rw [show (-k).toNat = 0 by omega, hj, Nat.pow_succ] at l1
    have h9 := Nat.one_le_two_pow (n := j)
    have : b * 1 ≤ b * 2 ^ j := Nat.mul_le_mul_left b h9
    rw [show b * (2 ^ j * 2) = 2 * (b * 2 ^ j) by rw [← Nat.mul_assoc, Nat.mul_comm]] at l1
    omega
  · by_cases c2 : k ≤ -1
    · exfalso
      rw [show (k + 1).toNat = 0 by omega] at l2
      have h9 := Nat.one_le_two_pow (n := (-(k + 1)).toNat)
      have : a * 1 ≤ a * 2 ^ (-(k + 1)).toNat := Nat.mul_le_mul_left a h9
      omega
    · omega
theorem zf_round {p q n R : Nat} (hq : 0 < q) (hn : n ≤ 20) (h1 : q ≤ p * 2 ^ n) (h2 : p * 2 ^ n < 2 * q) (hR : R = FP.Core.nearest (p * 2 ^ n * 2 ^ 23) q) (hR2 : R < 2 ^ 24) : FP.Core.roundRatio FP.Core.b32 false p q 0 = .fin false R (-(n : Int) - 23) := by
  have hp : p ≠ 0 := fun h => by subst h; rw [Nat.zero_mul] at h1; omega
  rw [FP.Core.roundRatio_congr (A' := p * 2 ^ n) (B' := q) (e' := -(n : Int)) hq hq (by
    rw [show (0 - -(n : Int)).toNat = n by omega, show (-(n : Int) - 0).toNat = 0 by omega, Nat.pow_zero, Nat.mul_one, Nat.mul_right_comm])]
  unfold FP.Core.roundRatio
  rw [if_neg (by omega)]
  have hqu : FP.Core.quantum FP.Core.b32 (p * 2 ^ n) q (-(n : Int)) = -(n : Int) - 23 := by
    unfold FP.Core.quantum
    rw [zf_lead hq h1 h2, show FP.Core.b32.qmin = -149 by decide, show FP.Core.b32.p = 24 from rfl]
    omega
  rw [hqu]
  unfold FP.Core.roundAt FP.Core.unitsNum FP.Core.unitsDen
  rw [show (-(n : Int) - (-(n : Int) - 23)).toNat = 23 by omega, show (-(n : Int) - 23 - -(n : Int)).toNat = 0 by omega, Nat.pow_zero, Nat.mul_one, ← hR]
  unfold FP.Core.settle FP.Core.bound
  rw [if_pos (show R < 2 ^ FP.Core.b32.p from hR2), if_pos (by rw [show FP.Core.b32.qmax = 104 by decide]; omega)]
/-- a whole number as a float -/
theorem zf_i2f {x : Int} (hx : 1 ≤ x ∧ x ≤ 400) : ∃ (c : Nat) (q : Int), FP.Core.val32 (FP.i2f (zI x)) = .fin false c q ∧ c * 2 ^ q.toNat = x.toNat * 2 ^ (-q).toNat := by
  have e1 : (zI x).toInt = x := Int32.toInt_ofInt_of_le (by omega) (by omega)
  have h := FP.Core.i2f_int (a := zI x) (by rw [e1]; omega)
  rw [e1] at h
  unfold FP.Core.FInt at h
  show ∃ (c : Nat) (q : Int), FP.Core.val32 (FP.Core.i2f (zI x)) = _ ∧ _
  cases hv : FP.Core.val32 (FP.Core.i2f (zI x)) with
  | nan => rw [hv] at h; exact False.elim h
  | inf s => rw [hv] at h; exact False.elim h
  | fin s c q =>
    rw [hv] at h
    have h' : FP.Core.signed s (c * 2 ^ q.toNat) = x * ((2 ^ (-q).toNat : Nat) : Int) := h
    have hp := Nat.two_pow_pos (-q).toNat
    have hpos : 0 < x * ((2 ^ (-q).toNat : Nat) : Int) := Int.mul_pos (by omega) (by omega)
    have hxx : x * ((2 ^ (-q).toNat : Nat) : Int) = ((x.toNat * 2 ^ (-q).toNat : Nat) : Int) := by
      rw [Int.natCast_mul, show ((x.toNat : Nat) : Int) = x by omega]
    cases s with
    | true =>
      exfalso
      have : -((c * 2 ^ q.toNat : Nat) : Int) = x * ((2 ^ (-q).toNat : Nat) : Int) := h'
      omega
    | false =>
      refine ⟨c, q, rfl, ?_⟩
      have : ((c * 2 ^ q.toNat : Nat) : Int) = x * ((2 ^ (-q).toNat : Nat) : Int) := h'
      rw [hxx] at this
      exact Int.ofNat.inj this
theorem zf_div {x y : Int} (hx : 1 ≤ x ∧ x ≤ 400) (hy : 1 ≤ y ∧ y ≤ 400) : FP.Core.val32 (FP.fdiv (FP.i2f (zI x)) (FP.i2f (zI y))) = FP.Core.roundRatio FP.Core.b32 false x.toNat y.toNat 0 := by
  obtain ⟨c, q, hc1, hc2⟩ := zf_i2f hx
  obtain ⟨d, r, hd1, hd2⟩ := zf_i2f hy
  show FP.Core.val32 (FP.Core.fdiv (FP.i2f (zI x)) (FP.i2f (zI y))) = _
  rw [FP.Core.val32_fdiv, hc1, hd1]
  have hd0 : d ≠ 0 := fun h => by
    subst h
    rw [Nat.zero_mul] at hd2
    have := Nat.mul_pos (show 0 < y.toNat by omega) (Nat.two_pow_pos (-r).toNat)
    omega
  show (if d = 0 then (if c = 0 then FP.Core.Datum.nan else .inf (false != false)) else FP.Core.roundRatio FP.Core.b32 (false != false) c d (q - r)) = _
  rw [if_neg hd0]
  refine FP.Core.roundRatio_congr (by omega) (by omega) ?_
  -- c * y * 2^u = x * d * 2^v, where u - v = q - r
  have key : c * y.toNat * 2 ^ (q.toNat + (-r).toNat) = x.toNat * d * 2 ^ ((-q).toNat + r.toNat) := by
    rw [Nat.pow_add, Nat.pow_add]
    calc c * y.toNat * (2 ^ q.toNat * 2 ^ (-r).toNat) = (c * 2 ^ q.toNat) * (y.toNat * 2 ^ (-r).toNat) := by
          rw [Nat.mul_mul_mul_comm]
      _ = (x.toNat * 2 ^ (-q).toNat) * (d * 2 ^ r.toNat) := by rw [hc2, hd2]
      _ = x.toNat * d * (2 ^ (-q).toNat * 2 ^ r.toNat) := by rw [Nat.mul_mul_mul_comm]
  obtain ⟨m, hm1, hm2⟩ : ∃ m, q.toNat + (-r).toNat = (q - r - 0).toNat + m ∧ (-q).toNat + r.toNat = (0 - (q - r)).toNat + m := ⟨min (q.toNat + (-r).toNat) ((-q).toNat + r.toNat), by omega, by omega⟩
  rw [hm1, hm2, Nat.pow_add, Nat.pow_add, ← Nat.mul_assoc, ← Nat.mul_assoc] at key
  exact Nat.eq_of_mul_eq_mul_right (Nat.two_pow_pos m) key
theorem zf_n32 {a : UInt32} {s : Bool} {c : Nat} {q : Int} (h : FP.Core.val32 a = .fin s c q) : vf_n32 a := by
  have h1 : a.toNat % 2 ^ 31 ≤ 2139095040 := (FP.Core.ne_nan32 a).mp (by rw [h]; exact fun h9 => nomatch h9)
  unfold vf_n32
  rw [UInt32.le_iff_toNat_le, UInt32.toNat_and]
  show a.toNat &&& (2 ^ 31 - 1) ≤ 2139095040
  rw [Nat.and_two_pow_sub_one_eq_mod]
  exact h1
theorem zf_c1 : FP.Core.val32 FP.fconst1 = .fin false (2 ^ 23) (-23) := by decide +kernel
theorem zf_c2 : FP.Core.val32 FP.fconst2 = .fin false (2 ^ 23) (-22) := by decide +kernel
theorem zf_c8 : FP.Core.val32 1258291200 = .fin false (2 ^ 23) 0 := by decide +kernel
theorem zf_cmp {a : UInt32} {R m : Nat} (h : FP.Core.val32 a = .fin false R (-(m : Int) - 23)) : FP.fcmp a FP.fconst1 = some (compare (R : Int) ((2 ^ 23 * 2 ^ m : Nat) : Int)) := by
  show FP.Core.order (FP.Core.val32 a) (FP.Core.val32 FP.fconst1) = _
  rw [h, zf_c1]
  show some (compare (((FP.Core.inUnits R (-(m : Int) - 23) (min (-(m : Int) - 23) (-23)) : Nat)) : Int) ((FP.Core.inUnits (2 ^ 23) (-23) (min (-(m : Int) - 23) (-23)) : Nat) : Int)) = _
  rw [show min (-(m : Int) - 23) (-23) = -(m : Int) - 23 by omega]
  unfold FP.Core.inUnits
  rw [show (-(m : Int) - 23 - (-(m : Int) - 23)).toNat = 0 by omega, show (-23 - (-(m : Int) - 23)).toNat = m by omega, Nat.pow_zero, Nat.mul_one]
theorem zf_dbl {a : UInt32} {R m : Nat} (hm : m ≤ 20) (hR : 2 ^ 23 ≤ R ∧ R < 2 ^ 24) (h : FP.Core.val32 a = .fin false R (-((m + 1 : Nat) : Int) - 23)) : FP.Core.val32 (FP.fmul a FP.fconst2) = .fin false R (-(m : Int) - 23) := by
  show FP.Core.val32 (FP.Core.fmul a FP.fconst2) = _
  rw [FP.Core.val32_fmul, h, zf_c2]
  show FP.Core.roundRatio FP.Core.b32 (false != false) (R * 2 ^ 23) 1 (-((m + 1 : Nat) : Int) - 23 + -22) = _
  refine FP.Core.roundRatio_exact FP.Core.good_b32 (by decide) ⟨hR.2, by rw [show FP.Core.b32.qmin = -149 by decide]; omega, by rw [show FP.Core.b32.qmax = 104 by decide]; omega, Or.inr hR.1⟩ ?_
  rw [show (-((m + 1 : Nat) : Int) - 23 + -22 - (-(m : Int) - 23)).toNat = 0 by omega, show (-(m : Int) - 23 - (-((m + 1 : Nat) : Int) - 23 + -22)).toNat = 23 by omega, Nat.pow_zero, Nat.mul_one, Nat.mul_one]
theorem zf_sub {a : UInt32} {R : Nat} (hR : 2 ^ 23 ≤ R ∧ R < 2 ^ 24) (h : FP.Core.val32 a = .fin false R (-23)) : FP.Core.val32 (FP.fsub a FP.fconst1) = FP.Core.roundRatio FP.Core.b32 false (R - 2 ^ 23) 1 (-23) := by
  show FP.Core.val32 (FP.Core.fsub a FP.fconst1) = _
  rw [FP.Core.val32_fsub, h, zf_c1]
  have e1 : FP.Core.sumUnits false R (-23) true (2 ^ 23) (-23) (-23) = ((R - 2 ^ 23 : Nat) : Int) := by
    show (((R * 2 ^ ((-23 : Int) - -23).toNat : Nat)) : Int) + -(((2 ^ 23 * 2 ^ ((-23 : Int) - -23).toNat : Nat)) : Int) = _
    rw [show ((-23 : Int) - -23).toNat = 0 from rfl, Nat.pow_zero, Nat.mul_one, Nat.mul_one]
    omega
  show FP.Core.roundRatio FP.Core.b32 (FP.Core.sumSign false true (FP.Core.sumUnits false R (-23) true (2 ^ 23) (-23) (-23))) (FP.Core.sumUnits false R (-23) true (2 ^ 23) (-23) (-23)).natAbs 1 (-23) = _
  have e2 : FP.Core.sumSign false true ((R - 2 ^ 23 : Nat) : Int) = false := by
    unfold FP.Core.sumSign
    by_cases c : ((R - 2 ^ 23 : Nat) : Int) = 0
    · rw [if_pos c]; rfl
    · rw [if_neg c]
      exact decide_eq_false (by omega)
  rw [e1, Int.natAbs_natCast, e2]
/-- a whole number of so many digits, and its float -/
theorem zf_M {M : Nat} (hM : M < 2 ^ 23) {e : Int} (he : -23 ≤ e ∧ e ≤ 0) : ∃ (c : Nat) (q : Int), FP.Core.roundRatio FP.Core.b32 false M 1 e = .fin false c q ∧ -149 ≤ q ∧ q ≤ e ∧ c < 2 ^ 24 ∧ c = M * 2 ^ (e - q).toNat ∧ (M = 0 ∨ (2 ^ 23 ≤ c ∧ -46 ≤ q)) := by
  by_cases h0 : M = 0
  · subst h0
    refine ⟨0, -149, ?_, by omega, by omega, by decide, by rw [Nat.zero_mul], Or.inl rfl⟩
    unfold FP.Core.roundRatio
    rw [if_pos rfl]; rfl
  · have l1 := Nat.log2_self_le h0
    have l2 := Nat.lt_log2_self (n := M)
    obtain ⟨L, hL⟩ : ∃ L, M.log2 = L := ⟨_, rfl⟩
    rw [hL] at l1 l2
    have hL22 : L < 23 := by
      apply Classical.byContradiction
      intro h9
      have := Nat.pow_le_pow_right (n := 2) (by decide) (show 23 ≤ L by omega)
      omega
    obtain ⟨k, hk⟩ : ∃ k, L + k = 23 := ⟨23 - L, by omega⟩
    have c1 : 2 ^ 23 ≤ M * 2 ^ k := by
      rw [← hk, Nat.pow_add]; exact Nat.mul_le_mul_right _ l1
    have c2 : M * 2 ^ k < 2 ^ 24 := by
      have h9 : M * 2 ^ k < 2 ^ (L + 1) * 2 ^ k := Nat.mul_lt_mul_of_pos_right l2 (Nat.two_pow_pos k)
      rw [← Nat.pow_add, show L + 1 + k = 24 by omega] at h9
      exact h9
    refine ⟨M * 2 ^ k, e - k, ?_, by omega, by omega, c2, by rw [show (e - (e - (k : Int))).toNat = k by omega], Or.inr ⟨c1, by omega⟩⟩
    refine FP.Core.roundRatio_exact FP.Core.good_b32 (by decide) ⟨c2, by rw [show FP.Core.b32.qmin = -149 by decide]; omega, by rw [show FP.Core.b32.qmax = 104 by decide]; omega, Or.inr c1⟩ ?_
    rw [show (e - (e - (k : Int))).toNat = k by omega, show (e - (k : Int) - e).toNat = 0 by omega, Nat.pow_zero, Nat.mul_one, Nat.mul_one]
theorem zf_clamp {A : Nat} (h : A < 8388608) : max (-2 ^ 31 : Int) (min (2 ^ 31 - 1) (A : Int)) = (A : Int) := by
  have e1 : (2 : Int) ^ 31 = 2147483648 := by decide
  rw [e1]
  omega
theorem zf_last {a : UInt32} {R : Nat} (hR : 2 ^ 23 ≤ R ∧ R < 2 ^ 24) (h : FP.Core.val32 a = .fin false R (-23)) : (∃ c q, FP.Core.val32 (FP.fsub a FP.fconst1) = .fin false c q) ∧ (∃ c q, FP.Core.val32 (FP.fmul (FP.fsub a FP.fconst1) 1258291200) = .fin false c q) ∧ FP.f2i (FP.fmul (FP.fsub a FP.fconst1) 1258291200) = zI ((R : Int) - 8388608) := by
  obtain ⟨c, q, h1, h2, h3, h4, h5, h6⟩ := zf_M (M := R - 2 ^ 23) (by omega) (e := -23) (by decide)
  have hs := zf_sub hR h
  rw [h1] at hs
  obtain ⟨c', q', k1, k2, k3, k4, k5, k6⟩ := zf_M (M := R - 2 ^ 23) (by omega) (e := 0) (by decide)
  have hm : FP.Core.val32 (FP.fmul (FP.fsub a FP.fconst1) 1258291200) = .fin false c' q' := by
    show FP.Core.val32 (FP.Core.fmul (FP.fsub a FP.fconst1) 1258291200) = _
    rw [FP.Core.val32_fmul, hs, zf_c8]
    show FP.Core.roundRatio FP.Core.b32 (false != false) (c * 2 ^ 23) 1 (q + 0) = _
    rw [← k1]
    refine FP.Core.roundRatio_congr (by decide) (by decide) ?_
    rw [Nat.mul_one, Nat.mul_one, show (q + 0 - 0).toNat = 0 by omega, Nat.pow_zero, Nat.mul_one, h5, Nat.mul_assoc, ← Nat.pow_add, show (-23 - q).toNat + 23 = (0 - (q + 0)).toNat by omega]
  refine ⟨⟨c, q, hs⟩, ⟨c', q', hm⟩, ?_⟩
  show Int32.ofInt (FP.Core.toInt (-2 ^ 31) (2 ^ 31 - 1) (FP.Core.val32 (FP.fmul (FP.fsub a FP.fconst1) 1258291200))) = _
  rw [hm]
  show Int32.ofInt (max (-2 ^ 31) (min (2 ^ 31 - 1) ((c' * 2 ^ q'.toNat / 2 ^ (-q').toNat : Nat) : Int))) = Int32.ofInt ((R : Int) - 8388608)
  have e9 : c' * 2 ^ q'.toNat / 2 ^ (-q').toNat = R - 2 ^ 23 := by
    rw [show q'.toNat = 0 by omega, Nat.pow_zero, Nat.mul_one, k5, show (0 - q').toNat = (-q').toNat by omega]
    exact Nat.mul_div_cancel _ (Nat.two_pow_pos _)
  obtain ⟨A, hA⟩ : ∃ A, R - 2 ^ 23 = A := ⟨_, rfl⟩
  rw [e9, hA, zf_clamp (show A < 8388608 by omega), show (A : Int) = (R : Int) - 8388608 by omega]
-- THE ROWS OF THE FLOATS
theorem z_ldcwI {p : Program} {l : Launch} {e : Env} {R : Room} {s : State} {m : MethodId} {args : Array Value} {below : List Frame} {meth : Method} {c : Code} {T : State} {locs : List Loc} {cells slots : Nat} (X : Stand p l e R s m args below meth c T locs cells slots) (hexec : p.tables.exec = Jvm.exec) {own : String} {index : Nat} {v : UInt32} (hown : s.vm.findClass own = some m.cls)
    (hconst : (Cond.constantFloat own index v).before args s = true) {g : JFrame} (hg : g.method = m) (hdg : decode c.code g.pc = .ok (.ldc_w index, 3)) :
    ∀ target, Steps p.tables e below (T.setTop { g with pc := g.pc + 3, stack := .float v :: g.stack }) target → Steps p.tables e below (T.setTop g) target := by
  obtain ⟨k, cf, hk, hcf, hcp⟩ := Cond.constantFloat_spec hown hconst
  obtain ⟨k', hk', he⟩ := X.warmed.alike.2.2 _ _ hk
  intro target hrest
  subst hg
  jvm_step X.here [hexec, hdg, ldc_w.wp_float (s := T) (f := g) X.here.top hk' (by rw [he]; exact hcf) hcp]
  exact hrest
section
variable {κ : zK} {own : String} {cc : ByteArray} {n lam mc ms : Nat} {T : Nat → z_Ty} {N : Nat} {a : Nat → Nat} {cells slots pc : Nat} {L : List (Nat × Value)} {S : List Value} {st : z_St}
theorem z_ldcwf {i : Nat} {v : UInt32} (hc : z_C κ own cc n lam mc ms) (hw : Cond.constantFloat own i v ∈ z_tbl) (hd : decode cc pc = .ok (.ldc_w i, 3)) (kk : z_V κ T N a cells slots (pc + 3) L (.float v :: S) st) : z_V κ T N a cells slots pc L S st := by
  obtain ⟨p, l, e, R, s, m, args, below, meth, c, Q, A, D, cA, nL⟩ := κ
  obtain ⟨hx, hb, hml, hn, hown, hts, hlk, hK, hA, hfr, hlo, hce, hsl, hX9, htr⟩ := hc
  intro H locs ls hP hS hl U hU X
  obtain ⟨t, a1, b1⟩ := kk H locs ls hP hS hl U hU X
  exact ⟨t, z_ldcwI X hx hown (hts _ hw) (g := F0 m pc ls S) rfl (by rw [hb]; exact hd) t a1, b1⟩
theorem z_i2f {x : Int32} (hc : z_C κ own cc n lam mc ms) (hd : decode cc pc = .ok (.i2f, 1)) (kk : z_V κ T N a cells slots (pc + 1) L (.float (FP.i2f x) :: S) st) : z_V κ T N a cells slots pc L (.int x :: S) st := by
  obtain ⟨p, l, e, R, s, m, args, below, meth, c, Q, A, D, cA, nL⟩ := κ
  obtain ⟨hx, hb, hml, hn, hown, hts, hlk, hK, hA, hfr, hlo, hce, hsl, hX9, htr⟩ := hc
  intro H locs ls hP hS hl
  exact lv_i2f hx hb hd (kk H locs ls hP hS hl)
theorem z_f2i {x : UInt32} (hc : z_C κ own cc n lam mc ms) (hd : decode cc pc = .ok (.f2i, 1)) (kk : z_V κ T N a cells slots (pc + 1) L (.int (FP.f2i x) :: S) st) : z_V κ T N a cells slots pc L (.float x :: S) st := by
  obtain ⟨p, l, e, R, s, m, args, below, meth, c, Q, A, D, cA, nL⟩ := κ
  obtain ⟨hx, hb, hml, hn, hown, hts, hlk, hK, hA, hfr, hlo, hce, hsl, hX9, htr⟩ := hc
  intro H locs ls hP hS hl
  exact lv_f2i hx hb hd (kk H locs ls hP hS hl)
theorem z_fconst1 (hc : z_C κ own cc n lam mc ms) (hd : decode cc pc = .ok (.fconst 1, 1)) (kk : z_V κ T N a cells slots (pc + 1) L (.float FP.fconst1 :: S) st) : z_V κ T N a cells slots pc L S st := by
  obtain ⟨p, l, e, R, s, m, args, below, meth, c, Q, A, D, cA, nL⟩ := κ
  obtain ⟨hx, hb, hml, hn, hown, hts, hlk, hK, hA, hfr, hlo, hce, hsl, hX9, htr⟩ := hc
  intro H locs ls hP hS hl
  exact lv_fconst1 hx hb hd (kk H locs ls hP hS hl)
theorem z_fconst2 (hc : z_C κ own cc n lam mc ms) (hd : decode cc pc = .ok (.fconst 2, 1)) (kk : z_V κ T N a cells slots (pc + 1) L (.float FP.fconst2 :: S) st) : z_V κ T N a cells slots pc L S st := by
  obtain ⟨p, l, e, R, s, m, args, below, meth, c, Q, A, D, cA, nL⟩ := κ
  obtain ⟨hx, hb, hml, hn, hown, hts, hlk, hK, hA, hfr, hlo, hce, hsl, hX9, htr⟩ := hc
  intro H locs ls hP hS hl
  exact lv_fconst2 hx hb hd (kk H locs ls hP hS hl)
theorem z_fload_n {k : Fin 4} {i : Nat} {x : UInt32} (j : Nat) (hc : z_C κ own cc n lam mc ms) (hd : decode cc pc = .ok (.fload_n k, 1)) (hj : L[j]? = some (i, .float x)) (hi : (k : Nat) = i) (kk : z_V κ T N a cells slots (pc + 1) L (.float x :: S) st) : z_V κ T N a cells slots pc L S st := by
  obtain ⟨p, l, e, R, s, m, args, below, meth, c, Q, A, D, cA, nL⟩ := κ
  obtain ⟨hx, hb, hml, hn, hown, hts, hlk, hK, hA, hfr, hlo, hce, hsl, hX9, htr⟩ := hc
  intro H locs ls hP hS hl
  exact lv_fload_n hx hb hd hi (lv_at hl j hj) (kk H locs ls hP hS hl)
theorem z_fstore_n {k : Fin 4} {i : Nat} {x : UInt32} (L' : List (Nat × Value)) (hc : z_C κ own cc n lam mc ms) (hd : decode cc pc = .ok (.fstore_n k, 1)) (hi : (k : Nat) = i) (hlt : i < n) (hL : (i, Value.float x) :: L.filter (fun q => !(q.1 == i) && !(q.1 + 1 == i && q.2.category == 2)) = L') (kk : z_V κ T N a cells slots (pc + 1) L' S st) : z_V κ T N a cells slots pc L (.float x :: S) st := by
  obtain ⟨p, l, e, R, s, m, args, below, meth, c, Q, A, D, cA, nL⟩ := κ
  obtain ⟨hx, hb, hml, hn, hown, hts, hlk, hK, hA, hfr, hlo, hce, hsl, hX9, htr⟩ := hc
  intro H locs ls hP hS hl
  exact lv_fstore_n hx hb hd hi hl (by rw [hn]; exact hlt) hL (fun ls' hl' => kk H locs ls' hP hS hl')
theorem z_fdiv {x y : UInt32} (hc : z_C κ own cc n lam mc ms) (hd : decode cc pc = .ok (.fdiv, 1)) (hne : vf_n32 (FP.fdiv x y)) (kk : z_V κ T N a cells slots (pc + 1) L (.float (FP.fdiv x y) :: S) st) : z_V κ T N a cells slots pc L (.float y :: .float x :: S) st := by
  obtain ⟨p, l, e, R, s, m, args, below, meth, c, Q, A, D, cA, nL⟩ := κ
  obtain ⟨hx, hb, hml, hn, hown, hts, hlk, hK, hA, hfr, hlo, hce, hsl, hX9, htr⟩ := hc
  intro H locs ls hP hS hl
  exact lv_fdiv hx hb hd hne (kk H locs ls hP hS hl)
theorem z_fmul {x y : UInt32} (hc : z_C κ own cc n lam mc ms) (hd : decode cc pc = .ok (.fmul, 1)) (hne : vf_n32 (FP.fmul x y)) (kk : z_V κ T N a cells slots (pc + 1) L (.float (FP.fmul x y) :: S) st) : z_V κ T N a cells slots pc L (.float y :: .float x :: S) st := by
  obtain ⟨p, l, e, R, s, m, args, below, meth, c, Q, A, D, cA, nL⟩ := κ
  obtain ⟨hx, hb, hml, hn, hown, hts, hlk, hK, hA, hfr, hlo, hce, hsl, hX9, htr⟩ := hc
  intro H locs ls hP hS hl
  exact lv_fmul hx hb hd hne (kk H locs ls hP hS hl)
theorem z_fsub {x y : UInt32} (hc : z_C κ own cc n lam mc ms) (hd : decode cc pc = .ok (.fsub, 1)) (hne : vf_n32 (FP.fsub x y)) (kk : z_V κ T N a cells slots (pc + 1) L (.float (FP.fsub x y) :: S) st) : z_V κ T N a cells slots pc L (.float y :: .float x :: S) st := by
  obtain ⟨p, l, e, R, s, m, args, below, meth, c, Q, A, D, cA, nL⟩ := κ
  obtain ⟨hx, hb, hml, hn, hown, hts, hlk, hK, hA, hfr, hlo, hce, hsl, hX9, htr⟩ := hc
  intro H locs ls hP hS hl
  exact lv_fsub hx hb hd hne (kk H locs ls hP hS hl)
theorem z_fcmp {x y : UInt32} {op : CmpOp} (v : Int) (hc : z_C κ own cc n lam mc ms) (hd : decode cc pc = .ok (.fcmp op, 1)) (hv : Op.cmpValue (FP.fcmp x y) op = zI v) (kk : z_V κ T N a cells slots (pc + 1) L (.int (zI v) :: S) st) : z_V κ T N a cells slots pc L (.float y :: .float x :: S) st := by
  obtain ⟨p, l, e, R, s, m, args, below, meth, c, Q, A, D, cA, nL⟩ := κ
  obtain ⟨hx, hb, hml, hn, hown, hts, hlk, hK, hA, hfr, hlo, hce, hsl, hX9, htr⟩ := hc
  intro H locs ls hP hS hl
  refine lv_fcmp hx hb hd ?_
  rw [hv]
  exact kk H locs ls hP hS hl
end
theorem kc_RX11_391 : Cond.constantFloat RX11 391 1258291200 ∈ z_tbl := z_t4 206 rfl rfl
-- THE NUMBERS
theorem zf_ls : ∀ (f : Nat) (p q : Int), 1 ≤ p → p < 2 * q → q ≤ p * 2 ^ f → ∃ n : Nat, n ≤ f ∧ z_ls f p q = (p * 2 ^ n, (n : Int)) ∧ q ≤ p * 2 ^ n ∧ p * 2 ^ n < 2 * q := by
  intro f
  induction f with
  | zero =>
    intro p q h1 h2 h3
    rw [Int.pow_zero, Int.mul_one] at h3
    exact ⟨0, Nat.le_refl 0, by rw [Int.pow_zero, Int.mul_one]; rfl, by rw [Int.pow_zero, Int.mul_one]; exact h3, by rw [Int.pow_zero, Int.mul_one]; exact h2⟩
  | succ f ih =>
    intro p q h1 h2 h3
    by_cases c : p < q
    · obtain ⟨n, n1, n2, n3, n4⟩ := ih (p * 2) q (by omega) (by omega) (by rw [Int.pow_succ, Int.mul_comm (2 ^ f) 2, ← Int.mul_assoc] at h3; exact h3)
      have e : p * 2 ^ (n + 1) = p * 2 * 2 ^ n := by rw [Int.pow_succ, Int.mul_comm (2 ^ n) 2, ← Int.mul_assoc]
      refine ⟨n + 1, by omega, ?_, by rw [e]; exact n3, by rw [e]; exact n4⟩
      show (if p < q then ((z_ls f (p * 2) q).1, (z_ls f (p * 2) q).2 + 1) else (p, 0)) = _
      rw [if_pos c, n2, e]
      rfl
    · refine ⟨0, by omega, ?_, by rw [Int.pow_zero, Int.mul_one]; omega, by rw [Int.pow_zero, Int.mul_one]; exact h2⟩
      show (if p < q then ((z_ls f (p * 2) q).1, (z_ls f (p * 2) q).2 + 1) else (p, 0)) = _
      rw [if_neg c, Int.pow_zero, Int.mul_one]
      rfl
theorem zf_or {k m : Nat} (hk : k ≤ 127) (hm : m < 8388608) : zI ((k * 8388608 : Nat) : Int) ||| zI ((m : Nat) : Int) = zI ((k * 8388608 + m : Nat) : Int) := by
  apply Int32.toBitVec_inj.mp
  rw [Int32.toBitVec_or]
  show BitVec.ofInt 32 ((k * 8388608 : Nat) : Int) ||| BitVec.ofInt 32 ((m : Nat) : Int) = BitVec.ofInt 32 ((k * 8388608 + m : Nat) : Int)
  rw [BitVec.ofInt_natCast, BitVec.ofInt_natCast, BitVec.ofInt_natCast]
  apply BitVec.eq_of_toNat_eq
  rw [BitVec.toNat_or, BitVec.toNat_ofNat, BitVec.toNat_ofNat, BitVec.toNat_ofNat, Nat.mod_eq_of_lt (by omega), Nat.mod_eq_of_lt (by omega), Nat.mod_eq_of_lt (by omega)]
  have h := Nat.two_pow_add_eq_or_of_lt (i := 23) (b := m) (by omega) k
  rw [Nat.mul_comm k]
  exact h.symm
theorem zf_shl : ∀ n : Nat, n < 21 → zI (127 - (n : Int)) <<< (zI 23 &&& 31) = zI (((127 - n) * 8388608 : Nat) : Int) := by decide +kernel
theorem zf_near {T q : Nat} (hq : 1 ≤ q ∧ q ≤ 400) (h1 : q ≤ T) (h2 : T < 2 * q) : 2 ^ 23 ≤ FP.Core.nearest (T * 2 ^ 23) q ∧ FP.Core.nearest (T * 2 ^ 23) q < 2 ^ 24 := by
  have h3 : T * 2 ^ 23 / q ≥ 2 ^ 23 := by
    rw [ge_iff_le, Nat.le_div_iff_mul_le (by omega), Nat.mul_comm]
    exact Nat.mul_le_mul_right _ h1
  have h4 : T * 2 ^ 23 / q < 2 ^ 24 - 1 := by
    rw [Nat.div_lt_iff_lt_mul (by omega)]
    omega
  unfold FP.Core.nearest
  by_cases c1 : 2 * (T * 2 ^ 23 % q) < q
  · rw [if_pos c1]; omega
  · rw [if_neg c1]
    by_cases c2 : q < 2 * (T * 2 ^ 23 % q)
    · rw [if_pos c2]; omega
    · rw [if_neg c2]
      have := Nat.mod_lt (T * 2 ^ 23 / q) (show 2 > 0 by decide)
      omega
/-- the bits by whole numbers, in the words of the model -/
theorem zf_bits {p q : Int} {n : Nat} (hp : 1 ≤ p) (hq : 1 ≤ q) (h : z_ls 20 p q = (p * 2 ^ n, (n : Int))) : z_bits p q = (127 - (n : Int)) * 8388608 + ((FP.Core.nearest (p.toNat * 2 ^ n * 2 ^ 23) q.toNat : Nat) : Int) - 8388608 := by
  unfold z_bits
  rw [h]
  obtain ⟨P, rfl⟩ : ∃ P : Nat, p = P := ⟨p.toNat, by omega⟩
  obtain ⟨Q, rfl⟩ : ∃ Q : Nat, q = Q := ⟨q.toNat, by omega⟩
  rw [Int.toNat_natCast, Int.toNat_natCast]
  have e0 : (P : Int) * 2 ^ n * 8388608 = ((P * 2 ^ n * 2 ^ 23 : Nat) : Int) := by
    rw [Int.natCast_mul, Int.natCast_mul, Int.natCast_pow]
    rfl
  show (127 - (n : Int)) * 8388608 + ((P : Int) * 2 ^ n * 8388608 / (Q : Int) + (if (Q : Int) < 2 * ((P : Int) * 2 ^ n * 8388608 % (Q : Int)) ∨ (2 * ((P : Int) * 2 ^ n * 8388608 % (Q : Int)) = (Q : Int) ∧ (P : Int) * 2 ^ n * 8388608 / (Q : Int) % 2 = 1) then 1 else 0)) - 8388608 = _
  rw [e0]
  obtain ⟨M, hM⟩ : ∃ M, P * 2 ^ n * 2 ^ 23 = M := ⟨_, rfl⟩
  rw [hM, ← Int.natCast_ediv, ← Int.natCast_emod]
  unfold FP.Core.nearest
  obtain ⟨A, hA⟩ : ∃ A, M / Q = A := ⟨_, rfl⟩
  obtain ⟨B, hB⟩ : ∃ B, M % Q = B := ⟨_, rfl⟩
  rw [hA, hB]
  congr 2
  by_cases c1 : 2 * B < Q
  · rw [if_pos c1, if_neg (by omega)]; omega
  · rw [if_neg c1]
    by_cases c2 : Q < 2 * B
    · rw [if_pos c2, if_pos (by omega)]; omega
    · rw [if_neg c2]
      by_cases c3 : A % 2 = 1
      · rw [if_pos (by omega)]; omega
      · rw [if_neg (by omega)]; omega
theorem zf_lt {u : UInt32} {R m : Nat} (hR : R < 2 ^ 24) (h : FP.Core.val32 u = .fin false R (-((m + 1 : Nat) : Int) - 23)) : Op.cmpValue (FP.fcmp u FP.fconst1) .g = zI (-1) := by
  rw [zf_cmp h]
  have : compare (R : Int) ((2 ^ 23 * 2 ^ (m + 1) : Nat) : Int) = .lt := by
    rw [Int.compare_eq_lt]
    have := Nat.one_le_two_pow (n := m)
    rw [Nat.pow_succ]
    omega
  rw [this]
  rfl
theorem zf_ge {u : UInt32} {R : Nat} (hR : 2 ^ 23 ≤ R) (h : FP.Core.val32 u = .fin false R (-((0 : Nat) : Int) - 23)) : ∃ v : Int, (v = 0 ∨ v = 1) ∧ Op.cmpValue (FP.fcmp u FP.fconst1) .g = zI v := by
  rw [zf_cmp h]
  have : compare (R : Int) ((2 ^ 23 * 2 ^ 0 : Nat) : Int) ≠ .lt := by
    rw [Ne, Int.compare_eq_lt]
    omega
  cases e : compare (R : Int) ((2 ^ 23 * 2 ^ 0 : Nat) : Int) with
  | lt => exact absurd e this
  | eq => exact ⟨0, Or.inl rfl, rfl⟩
  | gt => exact ⟨1, Or.inr rfl, rfl⟩
