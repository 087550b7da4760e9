-- SURE
theorem z_ls_le {n : Nat} {t q : Int} (h : q ≤ t) : z_ls n t q = (t, 0) := by
  cases n with
  | zero => rfl
  | succ n => unfold z_ls; rw [if_neg (by omega)]
theorem q_bits_loop {p q : Int} (h : 1 ≤ p ∧ p ≤ q ∧ q ≤ 400) (st : z_St) : q_ok (z_iter z_F (fun q9 : (Int × Int) => J_X12_bitsOf_b6 q q9.1 q9.2 st) (0, p)) (fun r => r = ((z_ls 20 p q).2, (z_ls 20 p q).1) ∧ (0 ≤ (z_ls 20 p q).2 ∧ (z_ls 20 p q).2 ≤ 20) ∧ q ≤ (z_ls 20 p q).1 ∧ (z_ls 20 p q).1 ≤ 2 * q) := by
  refine q_loop (fun s => ∃ n : Nat, z_ls 20 p q = ((z_ls n s.2 q).1, (z_ls n s.2 q).2 + s.1) ∧ (n : Int) + s.1 = 20 ∧ 0 ≤ s.1 ∧ q ≤ s.2 * 2 ^ n ∧ 1 ≤ s.2 ∧ s.2 ≤ 2 * q) (fun s => (1000 - s.2).toNat) ⟨20, by rw [Int.add_zero], rfl, Int.le_refl 0, ?_, h.1, by show p ≤ 2 * q; omega⟩ (by show (1000 - p).toNat < _; omega) ?_
  · show q ≤ p * 1048576
    omega
  · rintro ⟨c, t⟩ ⟨n, h1, h2, h3, h4, h5, h6⟩
    dsimp only at h1 h2 h3 h4 h5 h6 ⊢
    simp only [J_X12_bitsOf_b6, q_g, q_b, q_let, q_ite, q_some, z32, z64, true_or, or_true, true_and, and_true]
    refine ⟨by omega, by omega, fun hlt => ?_, fun hge => ?_⟩
    · cases n with
      | zero => exfalso; rw [Int.pow_zero, Int.mul_one] at h4; omega
      | succ n =>
        refine ⟨⟨n, ?_, by omega, by omega, ?_, by omega, by omega⟩, by omega⟩
        · rw [h1]
          have e : z_ls (n + 1) t q = ((z_ls n (t * 2) q).1, (z_ls n (t * 2) q).2 + 1) := by
            show (if t < q then _ else _) = _
            rw [if_pos hlt]
          rw [e]
          show ((z_ls n (t * 2) q).1, (z_ls n (t * 2) q).2 + 1 + c) = ((z_ls n (t * 2) q).1, (z_ls n (t * 2) q).2 + (c + 1))
          rw [Int.add_assoc, Int.add_comm 1 c]
        · rw [Int.pow_succ, Int.mul_comm (2 ^ n) 2, ← Int.mul_assoc] at h4; exact h4
    · have e := z_ls_le (n := n) (t := t) (q := q) (by omega)
      rw [e] at h1
      rw [h1]
      exact ⟨by rw [Int.zero_add], by show 0 ≤ 0 + c ∧ 0 + c ≤ 20; omega, by show q ≤ t; omega, by show t ≤ 2 * q; omega⟩
theorem q_quot {a q : Int} (h : 1 ≤ q) (h1 : q ≤ a) (h2 : a ≤ 2 * q) : 8388608 ≤ a * 8388608 / q ∧ a * 8388608 / q ≤ 16777216 := by
  constructor
  · rw [Int.le_ediv_iff_mul_le (by omega)]; omega
  · have : a * 8388608 / q < 16777217 := by rw [Int.ediv_lt_iff_lt_mul (by omega)]; omega
    omega
theorem z_bits_bd {p q : Int} (h : 1 ≤ p ∧ p ≤ q ∧ q ≤ 400) : 0 ≤ z_bits p q ∧ z_bits p q ≤ 2000000000 := by
  obtain ⟨r, _, _, h2, h3, h4⟩ := q_bits_loop h q_z0
  have h5 := q_quot (by omega) h3 h4
  unfold z_bits
  split <;> omega
theorem s_X12_bitsOf {p q : Int} (h : 1 ≤ p ∧ p ≤ q ∧ q ≤ 400) (st : z_St) : J_X12_bitsOf p q st = some (z_bits p q) := by
  refine q_of ?_
  simp only [J_X12_bitsOf, q_g, q_b, q_let, q_ite, q_some, z32, z64, true_or, or_true, true_and, and_true]
  refine ⟨by omega, ?_⟩
  refine q_mono (q_bits_loop h st) ?_
  rintro r ⟨rfl, h2, h3, h4⟩
  dsimp only
  have h5 := q_quot (by omega) h3 h4
  unfold z_bits
  obtain ⟨T, hT⟩ : ∃ T, (z_ls 20 p q).1 = T := ⟨_, rfl⟩
  obtain ⟨c, hc⟩ : ∃ c, (z_ls 20 p q).2 = c := ⟨_, rfl⟩
  rw [hT] at h3 h4 h5
  rw [hc] at h2
  rw [hT, hc]
  have hm1 : 0 ≤ T * 8388608 % q := Int.emod_nonneg _ (by omega)
  have hm2 : T * 8388608 % q < q := Int.emod_lt_of_pos _ (by omega)
  rw [Int.tmod_eq_emod_of_nonneg (by omega : 0 ≤ T * 8388608), Int.tdiv_eq_ediv_of_nonneg (by omega : 0 ≤ T * 8388608)]
  obtain ⟨A, hA⟩ : ∃ A, T * 8388608 / q = A := ⟨_, rfl⟩
  obtain ⟨M, hM⟩ : ∃ M, T * 8388608 % q = M := ⟨_, rfl⟩
  rw [hA] at h5
  rw [hM] at hm1 hm2
  rw [hA, hM]
  rw [Int.tmod_eq_emod_of_nonneg (by omega : 0 ≤ A)]
  simp only [J_X12_bitsOf_87, J_X12_bitsOf_91, J_X12_bitsOf_92, q_g, q_b, q_let, q_ite, q_some, z32, z64, true_or, or_true, true_and, and_true]
  refine ⟨by omega, by omega, by omega, by omega, by omega, by omega, fun k1 => ⟨by omega, ?_⟩, fun k1 => ⟨by omega, by omega, fun k2 => ⟨by omega, by omega, fun k3 => ⟨by omega, ?_⟩, fun k3 => ⟨by omega, ?_⟩⟩, fun k2 => ⟨by omega, ?_⟩⟩⟩
  · rw [if_pos (Or.inl k1)]
  · rw [if_pos (Or.inr ⟨k2, k3⟩)]
  · rw [if_neg (fun h9 => by rcases h9 with h9 | ⟨_, h9⟩; exact k1 h9; exact k3 h9)]
  · rw [if_neg (fun h9 => by rcases h9 with h9 | ⟨h9, _⟩; exact k1 h9; exact k2 h9)]
theorem q_fold2 {B : Int × Int × Int → Option ((Int × Int × Int) ⊕ (Int × Int))} (a b : Nat → Int) (lo : Int) (n : Nat) (hn : n < 900000) (hs : ∀ k : Nat, k < n → B (a k, b k, lo + k) = some (.inl (a (k + 1), b (k + 1), lo + k + 1))) (he : B (a n, b n, lo + n) = some (.inr (a n, b n))) : z_iter z_F B (a 0, b 0, lo) = some (a n, b n) := by
  refine q_of ?_
  refine q_loop (fun q => ∃ k : Nat, k ≤ n ∧ q = (a k, b k, lo + k)) (fun q => (lo + n - q.2.2).toNat) ⟨0, Nat.zero_le _, by rw [show lo + ((0 : Nat) : Int) = lo by omega]⟩ (by show (lo + (n : Int) - lo).toNat < _; omega) ?_
  rintro q ⟨k, hk, rfl⟩
  by_cases h : k < n
  · refine ⟨_, hs k h, ⟨k + 1, h, by rw [show lo + (k : Int) + 1 = lo + ((k + 1 : Nat) : Int) by omega]⟩, ?_⟩
    show (lo + (n : Int) - (lo + k + 1)).toNat < (lo + (n : Int) - (lo + k)).toNat
    omega
  · have : k = n := by omega
    subst this
    exact ⟨_, he, rfl⟩
theorem q_sums2 {B : Int × Int × Int → Option ((Int × Int × Int) ⊕ (Int × Int))} (X Y : Int) (G H : Nat → Int) (lo : Int) (n : Nat) (hn : n < 900000) (hs : ∀ k : Nat, k < n → ∀ x y : Int, B (x, y, lo + k) = some (.inl (x + G k, y + H k, lo + k + 1))) (he : ∀ x y : Int, B (x, y, lo + n) = some (.inr (x, y))) : z_iter z_F B (X, Y, lo) = some (X + e_sum G n, Y + e_sum H n) := by
  have h := q_fold2 (B := B) (fun k => X + e_sum G k) (fun k => Y + e_sum H k) lo n hn (fun k hk => by
    rw [hs k hk, Int.add_assoc, Int.add_assoc]; rfl) (he _ _)
  have e : X + e_sum G 0 = X := Int.add_zero X
  have e' : Y + e_sum H 0 = Y := Int.add_zero Y
  rw [e, e'] at h
  exact h
theorem q_sums20 {B : Int × Int × Int → Option ((Int × Int × Int) ⊕ (Int × Int))} (X Y : Int) (G H : Nat → Int) (n : Nat) (hn : n < 900000) (hs : ∀ k : Nat, k < n → ∀ x y : Int, B (x, y, (k : Int)) = some (.inl (x + G k, y + H k, (k : Int) + 1))) (he : ∀ x y : Int, B (x, y, (n : Int)) = some (.inr (x, y))) : z_iter z_F B (X, Y, 0) = some (X + e_sum G n, Y + e_sum H n) :=
  q_sums2 X Y G H 0 n hn (fun k hk => by rw [Int.zero_add]; exact hs k hk) (fun x y => by rw [Int.zero_add]; exact he x y)
theorem q_nA_sw {g : z_St} {beam : Int} {frame : Nat} {only : Int} : e_sum (fun w => e_sum (fun f => e_sum (fun k => if only = -1 ∨ only = (w : Int) then q_one g beam w f (frame + 1 + k) else 0) ((g 168 2).toNat - frame)) (frame + 1)) (g 168 18).toNat = q_nAround g beam frame only := by
  unfold q_nAround
  rw [e_sum_swap]
  exact e_sum_congr fun f _ => e_sum_swap
theorem s_sure_sum {g st : z_St} (hS : q_same g st) (hB : q_RB g) (h : q_slOK g (fun _ _ _ => True) st) {beam : Int} (hb : z64 beam) {frame : Nat} (hfr : frame < g 168 2) {only : Int} (ho : st 191 (6 * (frame : Int) + 1) = only) (ho2 : 0 ≤ only ∧ only < 5) : z_iter z_F (fun q9 : (Int × Int × Int) => J_X12_sure_b79 beam frame q9.1 q9.2.1 q9.2.2 st) (0, 0, 0) = some (q_nAround g beam frame only, q_nAround g beam frame (-1)) := by
  have hf1 := hB.1.1
  have hw1 := hB.2.2.2.2.1.1
  have e2 := hS.2 2 (by decide) (by decide)
  have e18 := hS.2 18 (by decide) (by decide)
  have main := q_sums20 (B := fun q9 : (Int × Int × Int) => J_X12_sure_b79 beam frame q9.1 q9.2.1 q9.2.2 st) 0 0 (fun w => e_sum (fun f => e_sum (fun k => if only = -1 ∨ only = (w : Int) then q_one g beam w f (frame + 1 + k) else 0) ((g 168 2).toNat - frame)) (frame + 1)) (fun w => e_sum (fun f => e_sum (fun k => if (-1 : Int) = -1 ∨ (-1 : Int) = (w : Int) then q_one g beam w f (frame + 1 + k) else 0) ((g 168 2).toNat - frame)) (frame + 1)) (g 168 18).toNat (by omega) (fun w hw x y => ?_) (fun x y => ?_)
  · rw [main, Int.zero_add, Int.zero_add, q_nA_sw, q_nA_sw]
  · refine q_of ?_
    simp only [J_X12_sure_b79, q_g, q_b, q_let, q_ite, q_some, z32, z64, true_or, or_true, true_and, and_true]
    rw [e18]
    refine ⟨by omega, fun _ => ?_, fun h9 => by omega⟩
    refine q_eq (q_sums20 _ _ (fun f => e_sum (fun k => if only = -1 ∨ only = (w : Int) then q_one g beam w f (frame + 1 + k) else 0) ((g 168 2).toNat - frame)) (fun f => e_sum (fun k => if (-1 : Int) = -1 ∨ (-1 : Int) = (w : Int) then q_one g beam w f (frame + 1 + k) else 0) ((g 168 2).toNat - frame)) (frame + 1) (by omega) (fun f hf x y => ?_) (fun x y => ?_)) rfl
    · refine q_of ?_
      simp only [J_X12_sure_b91, q_g, q_b, q_let, q_ite, q_some, z32, z64, true_or, or_true, true_and, and_true]
      refine ⟨by omega, fun h9 => by omega, fun _ => ?_⟩
      refine q_eq (q_sums2 _ _ (fun k => if only = -1 ∨ only = (w : Int) then q_one g beam w f (frame + 1 + k) else 0) (fun k => if (-1 : Int) = -1 ∨ (-1 : Int) = (w : Int) then q_one g beam w f (frame + 1 + k) else 0) ((frame : Int) + 1) ((g 168 2).toNat - frame) (by omega) (fun k hk x y => ?_) (fun x y => ?_)) rfl
      · have key := s_X12_isArc hB h hb (w := w) (f := f) (t := frame + 1 + k) (by omega) (by omega) (by omega)
        rw [show ((frame + 1 + k : Nat) : Int) = (frame : Int) + 1 + k by omega] at key
        have hq := q_one_bd (g := g) (beam := beam) (w := w) (f := f) (t := frame + 1 + k)
        refine q_of ?_
        simp only [J_X12_sure_b102, J_X12_sure_136, J_X12_sure_166, J_X12_sure_167, q_g, q_b, q_let, q_ite, q_some, z32, z64, true_or, or_true, true_and, and_true]
        rw [e2, ho]
        refine ⟨by omega, fun h9 => by omega, fun _ => ?_⟩
        refine q_eq key ?_
        rw [if_pos trivial]
        refine ⟨by omega, fun h0 => ⟨by omega, fun _ => ?_, fun h9 => absurd h0 h9⟩, fun h0 => ⟨by omega, fun h9 => absurd h9 h0, fun _ => ⟨by omega, by omega, fun h1 => ?_, fun h1 => ?_⟩⟩⟩
        · rw [h0, ite_self]
        · rw [if_pos (Or.inr (by omega)), show q_one g beam w f (frame + 1 + k) = 1 by omega]
        · rw [if_neg (by omega), show q_one g beam w f (frame + 1 + k) = 1 by omega]
      · refine q_of ?_
        simp only [J_X12_sure_b102, q_g, q_b, q_let, q_ite, q_some, z32, z64, true_or, or_true, true_and, and_true]
        rw [e2]
        exact ⟨by omega, fun _ => trivial, fun h9 => by omega⟩
    · refine q_of ?_
      simp only [J_X12_sure_b91, q_g, q_b, q_let, q_ite, q_some, z32, z64, true_or, or_true, true_and, and_true]
      exact ⟨by omega, fun _ => trivial, fun h9 => by omega⟩
  · refine q_of ?_
    simp only [J_X12_sure_b79, q_g, q_b, q_let, q_ite, q_some, z32, z64, true_or, or_true, true_and, and_true]
    rw [e18]
    exact ⟨by omega, fun h9 => by omega, fun _ => trivial⟩
/-- the bits of how sure it is -/
def q_sure (g : z_St) (beam : Int) (frame : Nat) (w : Int) : Int := z_bits (q_nAround g beam frame w) (q_nAround g beam frame (-1))
theorem s_X12_sure {g st0 : z_St} (hS : q_same g st0) (hB : q_RB g) {x1 x3 : Int} (h1 : z64 x1) (h3 : z32 x3) : q_ok (J_X12_sure x1 x3 st0) (fun r => q_K g st0 r.2 ∧ (¬ (0 ≤ x3 ∧ x3 < g 168 2) → r.2 168 0 = 1) ∧ (0 ≤ x3 ∧ x3 < g 168 2 → (x1 < 0 → r.2 168 0 = 2) ∧ (0 ≤ x1 → (q_bw g = none → r.2 168 0 = 3) ∧ ∀ b n : Nat, q_bestRow g b n → r.2 168 0 = 0 ∧ ∀ k i : Nat, k < (q_many n).toNat → x3 = ((q_Tk g (q_dig n) (q_many n).toNat k + i : Nat) : Int) → q_Tk g (q_dig n) (q_many n).toNat k + i < q_Tk g (q_dig n) (q_many n).toNat (k + 1) → r.1 = q_sure g x1 x3.toNat (q_dig n k)))) := by
  have hf1 := hB.1.1
  have hlen := q_len_le hB
  have a1 : -9223372036854775808 ≤ x1 ∧ x1 ≤ 9223372036854775807 := h1
  have a3 : -2147483648 ≤ x3 ∧ x3 ≤ 2147483647 := h3
  have e2 := hS.2 2 (by decide) (by decide)
  simp only [J_X12_sure, q_g, q_b, q_let, q_ite, q_some, z32, z64, true_or, or_true, true_and, and_true]
  rw [e2]
  refine ⟨h3, by omega, ?_⟩
  refine q_eq (s_X12_in (by omega)) ?_
  have bad : ∀ s0 : Int, 0 < s0 ∧ s0 < 10 → q_ok (J_X12_sure_38 s0 st0) (fun r => q_K g st0 r.2 ∧ r.2 168 0 = s0) := fun s0 hs => by
    simp only [J_X12_sure_38, q_g, q_b, q_let, q_ite, q_some, z32, z64, true_or, or_true, true_and, and_true]
    refine q_eq (s_holds_p hs) ?_
    dsimp only
    exact ⟨q_bad hS, z_up_at⟩
  refine ⟨by unfold q_in; split <;> decide, fun h => ?_, fun h => ⟨by omega, fun hneg => ?_, fun hneg => ?_⟩⟩
  · have k := q_in_0' h
    simp only [J_X12_sure_27, q_g, q_b, q_let, q_ite, q_some, z32, z64, true_or, or_true, true_and, and_true]
    refine ⟨by rw [h]; decide, fun _ => q_mono (bad 1 (by decide)) ?_, fun h9 => absurd h h9⟩
    rintro r ⟨b1, b2⟩
    exact ⟨b1, fun _ => b2, fun h9 => by omega⟩
  · have k := q_in_n0 h
    simp only [J_X12_sure_27, q_g, q_b, q_let, q_ite, q_some, z32, z64, true_or, or_true, true_and, and_true]
    refine ⟨by unfold q_in; split <;> decide, fun h9 => absurd h9 h, fun _ => q_mono (bad 2 (by decide)) ?_⟩
    rintro r ⟨b1, b2⟩
    exact ⟨b1, fun h9 => by omega, fun _ => ⟨fun _ => b2, fun h9 => by omega⟩⟩
  · have k := q_in_n0 h
    refine q_mono (s_X12_laysPath hS hB) ?_
    rintro ⟨b, st1⟩ ⟨c1, c2, c3, c4⟩
    dsimp only at c1 c2 c3 c4 ⊢
    have hS1 : q_same g st1 := ⟨fun x p q => (c1 x (by omega)).trans (hS.1 x p q), fun j p q => (c2 j (by omega)).trans (hS.2 j p q)⟩
    have hfl := q_bw_flag c3
    refine ⟨by omega, fun hb => ?_, fun hb => ?_⟩
    · simp only [J_X12_sure_57, q_g, q_b, q_let, q_ite, q_some, z32, z64, true_or, or_true, true_and, and_true]
      refine q_eq (s_holds_p (by decide)) ?_
      dsimp only
      refine ⟨by decide, fun h9 => absurd h9 (by decide), fun _ => ⟨q_K_of hS (fun x p => by rw [q_up_row (by omega)]; exact c1 x (by omega)) (fun j p q => by rw [z_up_n (by omega)]; exact c2 j (by omega)), fun h9 => by omega, fun _ => ⟨fun h9 => by omega, fun _ => ⟨fun _ => z_up_at, fun b' n' hb' => ?_⟩⟩⟩⟩
      obtain ⟨q1, y, q2, _⟩ := hb'
      obtain ⟨z, hz, _⟩ := e_mins_le (f := q_wl g) (List.getElem?_eq_some_iff.mp q1).1 y q2
      have hz2 : q_bw g = some z := hz
      rw [(hfl.1 hb).2] at hz2; cases hz2
    · simp only [J_X12_sure_57, q_g, q_b, q_let, q_ite, q_some, z32, z64, true_or, or_true, true_and, and_true]
      refine q_eq s_holds_0 ?_
      dsimp only
      refine ⟨by decide, fun _ => ?_, fun h9 => absurd rfl h9⟩
      refine q_mono (s_X12_laysArcs (q_up_0 hS1) hB) ?_
      rintro ⟨b2, st2⟩ ⟨d1, d2, d3, d4⟩
      dsimp only at d1 d2 d3 d4 ⊢
      have hS2 : q_same g st2 := ⟨fun x p q => (d1 x (by omega)).trans ((q_up_0 hS1).1 x p q), fun j p q => (d2 j (by omega)).trans ((q_up_0 hS1).2 j p q)⟩
      have hn : q_bw g ≠ none := fun hn => by
        rcases q_bw_first c3 with ⟨h9, _⟩ | ⟨k9, n9, x9, _, _, _, h9, _⟩
        · omega
        · rw [hn] at h9; cases h9
      obtain ⟨b0, n0, hb0⟩ := q_best_ex hn
      obtain ⟨k0, i0, m1, m2, m3⟩ := q_path_at hB hb0 (x := x3) (by omega)
      have hmb := q_many_bd n0
      have hw1 := hB.2.2.2.2.1.1
      have hdk := (q_rows_isRow hB hb0.1).2 k0 (by omega) (by omega)
      have hv : st2 191 (6 * x3 + 1) = q_dig n0 k0 := by
        rw [d1 191 (by decide), q_up_row (by decide), m2, c4 b0 n0 hb0 k0 i0 m1 m3 1 (by decide) (by decide)]
        rfl
      obtain ⟨fr, hfr⟩ : ∃ fr : Nat, x3 = fr := ⟨x3.toNat, by omega⟩
      have hsum := s_sure_sum (only := q_dig n0 k0) hS2 hB d4 h1 (frame := fr) (by omega) (by rw [← hfr]; exact hv) (by omega)
      rw [← hfr] at hsum
      refine q_eq hsum ?_
      dsimp only
      have hfe : fr = q_Tk g (q_dig n0) (q_many n0).toNat k0 + i0 := by omega
      have ho := q_nA_one hB hb0 m1 m3 (beam := x1) (by omega)
      rw [← hfe] at ho
      have hbd := q_nA_bd hB (beam := x1) (frame := fr) (by omega) (only := q_dig n0 k0)
      have hbd2 := q_nA_bd hB (beam := x1) (frame := fr) (by omega) (only := -1)
      refine q_eq (s_X12_bitsOf (by omega) st2) ?_
      refine ⟨q_K_of hS (fun x p => by rw [d1 x (by omega), q_up_row (by omega)]; exact c1 x (by omega)) (fun j p q => by rw [d2 j (by omega), z_up_n (by omega)]; exact c2 j (by omega)), fun h9 => by omega, fun _ => ⟨fun h9 => absurd h9 hneg, fun _ => ⟨fun h9 => absurd h9 hn, fun b' n' hb' => ⟨by rw [d2 0 (by decide), z_up_at], fun kk ii p1 p2 p3 => ?_⟩⟩⟩⟩
      have hv2 : st2 191 (6 * x3 + 1) = q_dig n' kk := by
        rw [d1 191 (by decide), q_up_row (by decide), p2, c4 b' n' hb' kk ii p1 p3 1 (by decide) (by decide)]
        rfl
      rw [← hv2, hv]
      unfold q_sure
      rw [hfr, Int.toNat_natCast]
theorem j_25 {g st : z_St} {f : Int → Int} {i : Int} (h : q_INV g st) (hf : ∀ j, z32 (f j)) : q_ok (JL_25 f i st) (fun st' => q_INV g st') := by
  have hB := h.2.1
  have hf1 := hB.1.1
  have hw1 := hB.2.2.2.2.1.1
  have e12 := h.2.2.1.1.1
  obtain ⟨bm, hbm⟩ : ∃ bm, z_lor (z_lshl (f (i + 1)) 32) (z_land (f (i + 2)) 4294967295) = bm := ⟨_, rfl⟩
  have hb64 : z64 bm := by rw [← hbm]; exact z64_lor
  have hb : -9223372036854775808 ≤ bm ∧ bm ≤ 9223372036854775807 := hb64
  have hR := fun s (hs : q_same g s) => s_X12_sure hs hB hb64 (hf (i + 3))
  obtain ⟨x3, hx3⟩ : ∃ x3, f (i + 3) = x3 := ⟨_, rfl⟩
  have z3 : z32 x3 := hx3 ▸ hf (i + 3)
  rw [hx3] at hR
  unfold JL_25
  rw [hbm, hx3]
  have z12 : z32 (st 1 2) := by rw [e12]; exact ⟨by omega, by omega⟩
  by_cases c : 0 ≤ x3 ∧ x3 < g 168 2
  · have i1 := s_index_y (x := x3) (st := st) ⟨z3, z12⟩ (by rw [e12]; exact c)
    by_cases cb : 0 ≤ bm
    · by_cases hn : q_bw g = none
      · refine j_I (code := 3) (val := 0) (by decide) (fun h9 => absurd h9 (by decide)) (l_n (X := J_X11_sure bm x3 st) (e := 2) (by decide) ?_ (fun q he hq => by unfold J_L_sure; rw [hq]; simp only [he]; rfl)) (fun s hs => q_mono (hR s hs.1) (fun q hq => ⟨hq.1, ((hq.2.2 c).2 cb).1 hn, fun h9 => absurd h9 (by decide)⟩))
        unfold J_X11_sure
        refine q_xl i1 ?_
        refine q_xl (s_least_y ⟨hb64, by decide⟩ cb) ?_
        refine q_xok (q_mono (s_checkBest h) ?_)
        intro r hr
        cases r with
        | inl s => exact absurd hn hr.1
        | inr q => exact ⟨_, rfl, hr.2.2.1, hr.2.1⟩
      · obtain ⟨b, n, hbr⟩ := q_best_ex hn
        obtain ⟨k, i9, k1, k2, k3⟩ := q_path_at hB hbr c
        have hmb := q_many_bd n
        have hdk := (q_rows_isRow hB hbr.1).2 k (by omega) (by omega)
        obtain ⟨fr, hfr⟩ : ∃ fr : Nat, x3 = fr := ⟨x3.toNat, by omega⟩
        have hfe : fr = q_Tk g (q_dig n) (q_many n).toNat k + i9 := by omega
        have ho := q_nA_one hB hbr k1 k3 (beam := bm) cb
        rw [← hfe] at ho
        have hbd := q_nA_bd hB (beam := bm) (frame := fr) (by omega) (only := q_dig n k)
        have hbd2 := q_nA_bd hB (beam := bm) (frame := fr) (by omega) (only := -1)
        have hbits := z_bits_bd (p := q_nAround g bm fr (q_dig n k)) (q := q_nAround g bm fr (-1)) (by omega)
        have hval : q_sure g bm x3.toNat (q_dig n k) = z_bits (q_nAround g bm fr (q_dig n k)) (q_nAround g bm fr (-1)) := by
          unfold q_sure; rw [hfr, Int.toNat_natCast]
        refine j_I (code := 0) (val := z_bits (q_nAround g bm fr (q_dig n k)) (q_nAround g bm fr (-1))) (by decide) (fun _ => ⟨by omega, by omega⟩) (l_y (X := J_X11_sure bm x3 st) ?_ (fun q h9 hq => by unfold J_L_sure; rw [hq]; show z_g (z32 q.1) _ = _; unfold z_g; rw [if_pos (show z32 q.1 from by rw [h9]; exact ⟨by omega, by omega⟩)])) (fun s hs => q_mono (hR s hs.1) (fun q hq => ⟨hq.1, (((hq.2.2 c).2 cb).2 b n hbr).1, fun _ => by rw [← hval]; exact (((hq.2.2 c).2 cb).2 b n hbr).2 k i9 k1 k2 k3⟩))
        unfold J_X11_sure
        refine q_xl i1 ?_
        refine q_xl (s_least_y ⟨hb64, by decide⟩ cb) ?_
        refine q_xok (q_mono (s_checkBest h) ?_)
        intro r hr
        cases r with
        | inr q => exact absurd hr.1 hn
        | inl s =>
          have hr2 := hr.2
          dsimp only
          simp only [q_g, q_b, q_let, q_ite, q_some, z32, z64, true_or, or_true, true_and, and_true]
          refine q_mono (s_readyTrack hr2.1 hn) ?_
          rintro st2 ⟨b1, b2, b3⟩
          refine q_mono (s_readyLattice b1) ?_
          rintro st3 ⟨d1, d2, d3, d4⟩
          have hw9 : st3 (150 + 1) x3 = q_dig n k := by
            rw [d4 (150 + 1) (by decide), k2]
            exact b2 b n hbr k i9 k1 k3 1 (by decide) (by decide)
          rw [hw9, hfr]
          refine ⟨by decide, by omega, ?_⟩
          refine q_eq (s_X3_countAround hB d2 hb64 (frame := fr) (only := q_dig n k) (by omega) (by omega)) ?_
          refine q_eq (s_X3_countAround hB d2 hb64 (frame := fr) (only := -1) (by omega) (by omega)) ?_
          simp only [J_X11_partBits, q_g, q_b, q_let, q_ite, q_some, z32, z64, true_or, or_true, true_and, and_true]
          exact ⟨by omega, _, rfl, d1, rfl⟩
    · refine j_I (code := 2) (val := 0) (by decide) (fun h9 => absurd h9 (by decide)) (l_n (X := J_X11_sure bm x3 st) (e := 1) (by decide) ?_ (fun q he hq => by unfold J_L_sure; rw [hq]; simp only [he]; rfl)) (fun s hs => q_mono (hR s hs.1) (fun q hq => ⟨hq.1, (hq.2.2 c).1 (by omega), fun h9 => absurd h9 (by decide)⟩))
      unfold J_X11_sure
      refine q_xl i1 ?_
      exact q_xr (s_least_n ⟨hb64, by decide⟩ (by omega)) ⟨_, rfl, h, rfl⟩
  · refine j_I (code := 1) (val := 0) (by decide) (fun h9 => absurd h9 (by decide)) (l_n (X := J_X11_sure bm x3 st) (e := 3) (by decide) ?_ (fun q he hq => by unfold J_L_sure; rw [hq]; simp only [he]; rfl)) (fun s hs => q_mono (hR s hs.1) (fun q hq => ⟨hq.1, hq.2.1 c, fun h9 => absurd h9 (by decide)⟩))
    unfold J_X11_sure
    exact q_xr (s_index_n ⟨z3, z12⟩ (by rw [e12]; exact c)) ⟨_, rfl, h, rfl⟩
