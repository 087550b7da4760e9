-- THE REFERENCE'S laysEnds
def q_rH (st : z_St) (a : Int) (o : Option (Int × Int)) : Prop := match o with
  | none => st 194 a = 0
  | some (x, n) => st 194 a = 1 ∧ st 192 a = x ∧ st 193 a = n
def q_his (g : z_St) (H : Nat → Nat → Option (Int × Int)) (T : Nat) (st : z_St) : Prop := ∀ s k : Nat, 1 ≤ s → s ≤ T → k < 20 → q_rH st (20 * (s : Int) + k) (H s k)
/-- the same but for the cells of t -/
def q_ft (t : Nat) (st0 st : z_St) : Prop := (∀ x, x ≠ 192 → x ≠ 193 → x ≠ 194 → st x = st0 x) ∧ ∀ x j, (j < 20 * (t : Int) ∨ 20 * (t : Int) + 20 ≤ j) → st x j = st0 x j
theorem q_rH_of {st st' : z_St} {a : Int} {o : Option (Int × Int)} (h : q_rH st a o) (k : ∀ x, st' x a = st x a) : q_rH st' a o := by
  unfold q_rH at h ⊢
  rw [k, k, k]; exact h
theorem q_rE_of {st st' : z_St} {a : Int} {o : Option (Int × Int)} (h : q_rE st a o) (k1 : st' 192 a = st 192 a) (k2 : st' 193 a = st 193 a) : q_rE st' a o := by
  unfold q_rE at h ⊢
  rw [k1, k2]; exact h
theorem q_cand_ob {g : z_St} (hB : q_RB g) {H : Nat → Nat → Option (Int × Int)} (hH : q_Hb g H) {t k j : Nat} (h5 : 5 ≤ k) (hk : k < 20) (hw : k % 5 < (g 168 18).toNat) (ht : t ≤ g 168 2) : q_ob k (q_cand g H t k j) := by
  have hw1 := hB.2.2.2.2.1.1
  unfold q_cand
  by_cases h3 : j % 5 < (g 168 18).toNat
  · have := q_ext_ob hB (k := 5 * (k / 5 - 1) + j % 5) (w := k % 5) (last := j % 5) (f := ((1 + j / 5 : Nat) : Int)) (t := t) (by omega) (hH (1 + j / 5) _).1 (by omega) (by omega) (by omega) ht
    rw [show 5 * ((5 * (k / 5 - 1) + j % 5) / 5 + 1) + k % 5 = k by omega] at this
    exact this
  · rw [(hH _ _).2 (by omega)]
    exact q_ob_none
theorem q_ob_at {k : Nat} {o : Option (Int × Int)} (hk : k < 20) (h : q_ob k o) : ∀ x n, o = some (x, n) → 0 ≤ x ∧ x ≤ 10000000000000 ∧ 1 ≤ n ∧ n ≤ 100000 := fun x n e => by
  have := h x n e
  refine ⟨this.1, by omega, this.2.2.1, ?_⟩
  have h4 := this.2.2.2
  (repeat' split at h4) <;> omega
/-- where the words' ends of t stand when so many have come: w's of two WORDS and more -/
def q_mid (g : z_St) (H : Nat → Nat → Option (Int × Int)) (t w : Nat) (pr : Nat → Nat) (st0 st : z_St) : Prop := (∀ x, x ≠ 192 → x ≠ 193 → st x = st0 x) ∧ (∀ j, (∀ L : Nat, L < 3 → j ≠ 20 * (t : Int) + ((5 * (L + 1) + w : Nat) : Int)) → st 192 j = st0 192 j ∧ st 193 j = st0 193 j) ∧ ∀ L : Nat, L < 3 → q_rE st (20 * (t : Int) + ((5 * (L + 1) + w : Nat) : Int)) (q_lp (q_cand g H t (5 * (L + 1) + w)) (pr L))
theorem s_ends_100 {g st0 : z_St} (hS : q_same g st0) (hB : q_RB g) (hT : q_tabOK g (fun _ _ => True) st0) {H : Nat → Nat → Option (Int × Int)} (hH : q_Hb g H) {t w f : Nat} (ht : t ≤ g 168 2) (hw : w < g 168 18) (hf : 1 ≤ f ∧ f < t) (hh : q_his g H (t - 1) st0)
    (h0 : q_mid g H t w (fun _ => 5 * (f - 1)) st0 st0) :
    q_ok (z_iter z_F (fun q9 : (Int × z_St) => J_X12_laysEnds_b100 t w f q9.1 q9.2) (0, st0)) (fun st => q_mid g H t w (fun _ => 5 * f) st0 st) := by
  have hw1 := hB.2.2.2.2.1.1
  have hf1 := hB.1.1
  refine q_for0 (fun k st => q_mid g H t w (fun L => 5 * (f - 1) + min 5 (k - 5 * L)) st0 st) 15 (by decide) ?_ ?_ ?_
  · exact ⟨h0.1, h0.2.1, fun L hL => by show q_rE st0 _ (q_lp _ (5 * (f - 1) + min 5 (0 - 5 * L))); rw [show 5 * (f - 1) + min 5 (0 - 5 * L) = 5 * (f - 1) by omega]; exact h0.2.2 L hL⟩
  · rintro k st hk ⟨i1, i2, i3⟩
    have hS1 : q_same g st := q_same_of hS (fun x a b => i1 x (by omega) (by omega))
    have hT1 : q_tabOK g (fun _ _ => True) st := q_tabOK_of hT (i1 183 (by decide) (by decide)) (i1 184 (by decide) (by decide))
    have hkf := hh f k hf.1 (by omega) (by omega)
    have hkf2 : q_rH st (20 * (f : Int) + k) (H f k) := by
      unfold q_rH at hkf ⊢
      have e := i2 (20 * (f : Int) + k) (fun L hL => by omega)
      rw [i1 194 (by decide) (by decide), e.1, e.2]; exact hkf
    have ecand : q_cand g H t (5 * (k / 5 + 1) + w) (5 * (f - 1) + k % 5) = q_ext g w (k % 5) (H f k) (q_tab g w f t) := by
      unfold q_cand
      rw [show (5 * (k / 5 + 1) + w) % 5 = w by omega, show (5 * (f - 1) + k % 5) % 5 = k % 5 by omega, show 1 + (5 * (f - 1) + k % 5) / 5 = f by omega, show 5 * ((5 * (k / 5 + 1) + w) / 5 - 1) + k % 5 = k by omega]
    have hpr : 5 * (f - 1) + min 5 (k - 5 * (k / 5)) = 5 * (f - 1) + k % 5 := by omega
    have hpr1 : 5 * (f - 1) + min 5 (k + 1 - 5 * (k / 5)) = 5 * (f - 1) + k % 5 + 1 := by omega
    have hold := i3 (k / 5) (by omega)
    dsimp only at hold
    rw [hpr] at hold
    have hnew : q_lp (q_cand g H t (5 * (k / 5 + 1) + w)) (5 * (f - 1) + min 5 (k + 1 - 5 * (k / 5))) = q_put (q_lp (q_cand g H t (5 * (k / 5 + 1) + w)) (5 * (f - 1) + k % 5)) (q_ext g w (k % 5) (H f k) (q_tab g w f t)) := by
      rw [hpr1, ← ecand]; rfl
    have hoth : ∀ L, L < 3 → L ≠ k / 5 → min 5 (k + 1 - 5 * L) = min 5 (k - 5 * L) := fun L hL hne => by omega
    simp only [J_X12_laysEnds_b100, J_X12_laysEnds_181, q_g, q_b, q_let, q_ite, q_some, z32, z64, true_or, or_true, true_and, and_true]
    have hkt : (k : Int).tdiv 5 = ((k / 5 : Nat) : Int) := by rw [Int.tdiv_eq_ediv_of_nonneg (by omega)]; omega
    have hkm : (k : Int).tmod 5 = ((k % 5 : Nat) : Int) := by rw [Int.tmod_eq_emod_of_nonneg (by omega)]; omega
    rw [hkt, hkm]
    cases hHk : H f k with
    | none =>
      rw [hHk] at hkf2 hnew
      have z : st 194 (20 * (f : Int) + k) = 0 := hkf2
      rw [z]
      refine ⟨by omega, fun _ => ⟨by omega, by decide, fun _ => ⟨_, rfl, i1, i2, fun L hL => ?_⟩, fun h9 => absurd rfl h9⟩, fun h9 => by omega⟩
      show q_rE _ _ (q_lp _ (5 * (f - 1) + min 5 (k + 1 - 5 * L)))
      by_cases e : L = k / 5
      · rw [e, hnew]
        exact hold
      · rw [hoth L hL e]; exact i3 L hL
    | some p =>
      obtain ⟨x, n⟩ := p
      rw [hHk] at hkf2 hnew ecand
      obtain ⟨z1, z2, z3⟩ : st 194 (20 * (f : Int) + k) = 1 ∧ st 192 (20 * (f : Int) + k) = x ∧ st 193 (20 * (f : Int) + k) = n := hkf2
      have hxb := (hH f k).1 x n hHk
      have hkw : k % 5 < (g 168 18).toNat := by
        apply Classical.byContradiction
        intro h9
        have := (hH f k).2 h9
        rw [hHk] at this; cases this
      have hn9 : n < 1000 := by
        have h4 := hxb.2.2.2
        (repeat' split at h4) <;> omega
      rw [z1, z2, z3]
      refine ⟨by omega, fun _ => ⟨by omega, by decide, fun h9 => absurd h9 (by decide), fun _ => ⟨by omega, ?_⟩⟩, fun h9 => by omega⟩
      refine q_eq s_X12_end ?_
      refine ⟨by omega, ?_⟩
      refine q_eq (s_X12_tableOf (by omega)) ?_
      refine ⟨by omega, ?_⟩
      refine q_eq (s_X12_dear hS1 hB.2.2.2.2.2.2 hB.2.2.2.2.2.1 (by omega)) ?_
      refine ⟨by omega, ?_⟩
      have htb : e_bd 600000010000 (q_tab g w f t) := q_tab_bd hB (by omega)
      have htI := e_I_le (K := 1000000000000000000) htb (by decide) (by decide)
      have eT := (hT1 w f t (by omega) (by omega) (by omega) (by omega) (by omega) trivial).1
      have hdw := q_dear_w hB (v := k % 5) (w := w) (by omega) hw
      have hxk : x ≤ 10000000000000 := by have := hxb.2.1; omega
      rw [eT, show 20 * (t : Int) + 5 * (((k / 5 : Nat) : Int) + 2 - 1) + w = 20 * (t : Int) + ((5 * (k / 5 + 1) + w : Nat) : Int) by omega]
      have hlpob := q_ob_at (k := 5 * (k / 5 + 1) + w) (by omega) (q_ob_lp (n := 5 * (f - 1) + k % 5) fun j hj => q_cand_ob hB hH (t := t) (k := 5 * (k / 5 + 1) + w) (j := j) (by omega) (by omega) (by omega) ht)
      refine q_mono (s_X12_comes (c := q_ext g w (k % 5) (some (x, n)) (q_tab g w f t)) (by omega) hold hlpob (by omega) (by omega) ?_) ?_
      · cases hq : q_tab g w f t with
        | none => exact Or.inl ⟨rfl, by rw [e_I_none]; omega⟩
        | some y => have := htb y hq; exact Or.inr ⟨by rw [e_I_some]; rfl, by rw [e_I_some]; omega⟩
      · rintro st2 ⟨a1, a2, a3⟩
        refine ⟨_, rfl, fun x x1 x2 => (a1 x x1 x2).trans (i1 x x1 x2), fun j hj => ?_, fun L hL => ?_⟩
        · have := a2 j (hj (k / 5) (by omega))
          rw [this.1, this.2]; exact i2 j hj
        · show q_rE _ _ (q_lp _ (5 * (f - 1) + min 5 (k + 1 - 5 * L)))
          by_cases e : L = k / 5
          · rw [e, hnew]; exact a3
          · rw [hoth L hL e]
            have := a2 (20 * (t : Int) + ((5 * (L + 1) + w : Nat) : Int)) (by omega)
            exact q_rE_of (i3 L hL) this.1 this.2
  · rintro st ⟨i1, i2, i3⟩
    simp only [J_X12_laysEnds_b100, q_g, q_b, q_let, q_ite, q_some, z32, z64, true_or, or_true, true_and, and_true]
    refine ⟨by decide, fun h9 => absurd h9 (by decide), fun _ => ⟨_, rfl, i1, i2, fun L hL => ?_⟩⟩
    have := i3 L hL
    dsimp only at this
    rw [show 5 * (f - 1) + min 5 (15 - 5 * L) = 5 * f by omega] at this
    exact this
