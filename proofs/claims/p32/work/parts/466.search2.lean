-- THE CLASS'S SEARCH: the ends of one t
/-- only the ends of t change -/
def q_tt (t : Nat) (st0 st : z_St) : Prop := (∀ x, x ≠ 141 → x ≠ 142 → st x = st0 x) ∧ ∀ j, (j < 20 * (t : Int) ∨ 20 * (t : Int) + 20 ≤ j) → st 141 j = st0 141 j ∧ st 142 j = st0 142 j
theorem q_tt_1 {t : Nat} {a : Int} {s0 s1 s2 : z_St} (ha : 20 * (t : Int) ≤ a ∧ a < 20 * (t : Int) + 20) (h : q_tt t s0 s1) (k : q_1 a s1 s2) : q_tt t s0 s2 := ⟨fun x p q => (k.1 x p q).trans (h.1 x p q), fun j hj => ⟨(k.2 j (by omega)).1.trans (h.2 j hj).1, (k.2 j (by omega)).2.trans (h.2 j hj).2⟩⟩
theorem q_hC_tt {H : Nat → Nat → Option (Int × Int)} {t : Nat} {s0 s1 : z_St} (h : q_tt t s0 s1) (hh : q_hC H t s0) : q_hC H t s1 := fun s k a b => by
  have e := h.2 (20 * (s : Int) + k) (by omega)
  exact q_cE_of (hh s k a b) e.1 e.2
theorem s_run_27 {g st0 : z_St} (hB : q_RB g) (hT : q_TC g st0) {H : Nat → Nat → Option (Int × Int)} (hH : q_Hb g H) {t : Nat} (ht : t ≤ g 168 2) (ht1 : 1 ≤ t) (hh : q_hC H t st0) (h0 : ∀ k : Nat, k < 20 → q_cE st0 (20 * (t : Int) + k) none) {v3 v4 v6 : Int} :
    q_ok (z_iter z_F (fun q9 : (Int × z_St) => J_X8_run_b27 (g 168 18) v3 v4 v6 t q9.1 q9.2) (0, st0)) (fun st => q_tt t st0 st ∧ ∀ k : Nat, k < 20 → q_cE st (20 * (t : Int) + k) (q_E g H t k)) := by
  have hw1 := hB.2.2.2.2.1.1
  have hf1 := hB.1.1
  refine q_for0 (fun w st => q_tt t st0 st ∧ ∀ k : Nat, k < 20 → q_cE st (20 * (t : Int) + k) (if k % 5 < w then q_E g H t k else none)) (g 168 18).toNat (by omega) ⟨⟨fun _ _ _ => rfl, fun _ _ => ⟨rfl, rfl⟩⟩, fun k hk => by rw [if_neg (by omega)]; exact h0 k hk⟩ ?_ ?_
  · rintro w st hw ⟨i1, i2⟩
    have hT1 : q_TC g st := q_TC_of hT hB (fun x a b => by unfold q_isT at a; exact i1.1 x (by omega) (by omega))
    simp only [J_X8_run_b27, q_g, q_b, q_let, q_ite, q_some, z32, z64, true_or, or_true, true_and, and_true]
    refine ⟨by omega, fun _ => ?_, fun h9 => by omega⟩
    refine q_eq (s_X0_span (by omega)) ?_
    refine q_eq (q_toll hT1 (by omega) (by omega) hw1.2) ?_
    rw [if_pos rfl, if_neg (by omega)]
    have eT := hT1.2.2.1 w 0 t (by omega) (by omega) (by omega) (by omega) (by omega)
    have htb : e_bd 600000010000 (q_tab g w 0 t) := q_tab_bd hB (by omega)
    have htI := e_I_le (K := 1152921504606846976) htb (by decide) (by decide)
    have hdw := q_dear_w hB (v := w) (w := w) (by omega) (by omega)
    have hold := i2 w (by omega)
    rw [if_neg (by omega)] at hold
    rw [eT, show (t : Int) * 20 + w = 20 * (t : Int) + w by omega]
    refine q_mono (s_X8_putEnd (c := q_one1 g w t) (by omega) hold (fun x n h => nomatch h) (by omega) ?_) ?_
    · cases hq : q_tab g w 0 t with
      | none => exact Or.inl ⟨by unfold q_one1; rw [hq], by rw [e_I_none]; omega⟩
      | some y => have := htb y hq; exact Or.inr ⟨by unfold q_one1; rw [hq, e_I_some], by rw [e_I_some]; omega, by omega, by omega⟩
    · rintro st2 ⟨b1, b2, b3⟩
      have htt2 : q_tt t st0 st2 := q_tt_1 (by omega) i1 ⟨b1, b2⟩
      refine q_mono (P := fun s => q_tt t st0 s ∧ (∀ k : Nat, k < 20 → (k < 5 ∨ k % 5 ≠ w) → s 141 (20 * (t : Int) + k) = st2 141 (20 * (t : Int) + k) ∧ s 142 (20 * (t : Int) + k) = st2 142 (20 * (t : Int) + k)) ∧ ∀ L : Nat, L < 3 → q_cE s (20 * (t : Int) + ((5 * (L + 1) + w : Nat) : Int)) (q_lp (q_cand g H t (5 * (L + 1) + w)) (5 * (t - 1)))) ?_ ?_
      · refine q_for (fun i s => q_tt t st0 s ∧ (∀ k : Nat, k < 20 → (k < 5 ∨ k % 5 ≠ w) → s 141 (20 * (t : Int) + k) = st2 141 (20 * (t : Int) + k) ∧ s 142 (20 * (t : Int) + k) = st2 142 (20 * (t : Int) + k)) ∧ (∀ L : Nat, L < i → q_cE s (20 * (t : Int) + ((5 * (L + 1) + w : Nat) : Int)) (q_lp (q_cand g H t (5 * (L + 1) + w)) (5 * (t - 1)))) ∧ ∀ L : Nat, i ≤ L → L < 3 → q_cE s (20 * (t : Int) + ((5 * (L + 1) + w : Nat) : Int)) none) 2 3 (by decide) ⟨htt2, fun _ _ _ => ⟨rfl, rfl⟩, fun L hL => by omega, fun L _ hL => ?_⟩ ?_ ?_
        · have h9 := i2 (5 * (L + 1) + w) (by omega)
          rw [if_neg (by omega)] at h9
          have e := b2 (20 * (t : Int) + ((5 * (L + 1) + w : Nat) : Int)) (by omega)
          exact q_cE_of h9 e.1 e.2
        · rintro i s hi ⟨k1, k2, k3, k4⟩
          have hT3 : q_TC g s := q_TC_of hT hB (fun x a b => by unfold q_isT at a; exact k1.1 x (by omega) (by omega))
          simp only [J_X8_run_b69, q_g, q_b, q_let, q_ite, q_some, z32, z64, true_or, or_true, true_and, and_true]
          refine ⟨by omega, fun h9 => by omega, fun _ => ?_⟩
          rw [show 2 + (i : Int) = (i : Int) + 2 by omega]
          refine q_mono (s_X8_lengthen hB hT3 hH (t := t) (L := i) (w := w) ht ht1 hi (by omega) (q_hC_tt k1 hh) (k4 i (Nat.le_refl _) hi)) ?_
          rintro s2 ⟨c1, c2⟩
          refine ⟨_, rfl, q_tt_1 (by omega) k1 c1, fun k hk hk2 => ?_, fun L hL => ?_, fun L hL hL2 => ?_⟩
          · have e := c1.2 (20 * (t : Int) + k) (by omega)
            have e2 := k2 k hk hk2
            exact ⟨e.1.trans e2.1, e.2.trans e2.2⟩
          · by_cases e : L = i
            · subst e; exact c2
            · have e2 := c1.2 (20 * (t : Int) + ((5 * (L + 1) + w : Nat) : Int)) (by omega)
              exact q_cE_of (k3 L (by omega)) e2.1 e2.2
          · have e2 := c1.2 (20 * (t : Int) + ((5 * (L + 1) + w : Nat) : Int)) (by omega)
            exact q_cE_of (k4 L (by omega) hL2) e2.1 e2.2
        · rintro s ⟨k1, k2, k3, k4⟩
          simp only [J_X8_run_b69, q_g, q_b, q_let, q_ite, q_some, z32, z64, true_or, or_true, true_and, and_true]
          exact ⟨by decide, fun _ => ⟨_, rfl, k1, k2, k3⟩, fun h9 => absurd (by decide) h9⟩
      · rintro s ⟨k1, k2, k3⟩
        refine ⟨_, rfl, k1, fun k hk => ?_⟩
        by_cases e : k % 5 = w
        · rw [if_pos (by omega)]
          by_cases h5 : k < 5
          · have ek : k = w := by omega
            subst ek
            have e9 := k2 k hk (Or.inl h5)
            have hq : q_E g H t k = q_put none (q_one1 g k t) := by
              unfold q_E
              rw [if_pos (by omega), if_pos h5]
              cases q_one1 g k t with
              | none => rfl
              | some p => rfl
            rw [hq]
            exact q_cE_of b3 e9.1 e9.2
          · have h9 := k3 (k / 5 - 1) (by omega)
            rw [show 5 * (k / 5 - 1 + 1) + w = k by omega] at h9
            unfold q_E
            rw [if_pos (by omega), if_neg h5]
            exact h9
        · have h9 := i2 k hk
          have e1 := k2 k hk (Or.inr e)
          have e2 := b2 (20 * (t : Int) + k) (by omega)
          by_cases h8 : k % 5 < w
          · rw [if_pos h8] at h9; rw [if_pos (by omega)]
            exact q_cE_of h9 (e1.1.trans e2.1) (e1.2.trans e2.2)
          · rw [if_neg h8] at h9; rw [if_neg (by omega)]
            exact q_cE_of h9 (e1.1.trans e2.1) (e1.2.trans e2.2)
  · rintro st ⟨i1, i2⟩
    simp only [J_X8_run_b27, q_g, q_b, q_let, q_ite, q_some, z32, z64, true_or, or_true, true_and, and_true]
    refine ⟨by omega, fun h9 => by omega, fun _ => ⟨_, rfl, i1, fun k hk => ?_⟩⟩
    have h9 := i2 k hk
    by_cases e : k % 5 < (g 168 18).toNat
    · rw [if_pos e] at h9; exact h9
    · rw [if_neg e] at h9
      have : q_E g H t k = none := by unfold q_E; rw [if_neg (by omega)]
      rw [this]; exact h9
-- what is dropped
def q_e1 (beam : Int) (E : Nat → Option (Int × Int)) (k : Nat) : Option (Int × Int) := match E k with
  | none => none
  | some (x, n) => if x - e_I 0 (q_low E) ≤ beam then some (x, n) else none
def q_e2 (most : Int) (E : Nat → Option (Int × Int)) (k : Nat) : Option (Int × Int) := match E k with
  | none => none
  | some (x, n) => if (q_ahd E k : Int) < most then some (x, n) else none
theorem q_e1_ah {beam : Int} {E : Nat → Option (Int × Int)} {k : Nat} {x n : Int} (hk : E k = some (x, n)) (hb : x - e_I 0 (q_low E) ≤ beam) : q_ahd (q_e1 beam E) k = q_ahd E k := by
  unfold q_ahd
  refine e_cnt_congr fun j hj => ?_
  have h1 : q_e1 beam E k = some (x, n) := by unfold q_e1; rw [hk]; show (if _ then _ else _) = _; rw [if_pos hb]
  rw [h1, hk]
  cases hj9 : E j with
  | none =>
    have : q_e1 beam E j = none := by unfold q_e1; rw [hj9]
    rw [this]
  | some p =>
    obtain ⟨y, m⟩ := p
    by_cases h : y - e_I 0 (q_low E) ≤ beam
    · have : q_e1 beam E j = some (y, m) := by unfold q_e1; rw [hj9]; show (if _ then _ else _) = _; rw [if_pos h]
      rw [this]
    · have : q_e1 beam E j = none := by unfold q_e1; rw [hj9]; show (if _ then _ else _) = _; rw [if_neg h]
      rw [this]
      have hno : ¬ q_aB (some (y, m)) (some (x, n)) = true := fun h9 => by have := q_aB_iff.mp h9; omega
      cases h8 : q_aB (some (y, m)) (some (x, n)) with
      | false => rfl
      | true => exact absurd h8 hno
theorem q_e12 {beam most : Int} {E : Nat → Option (Int × Int)} {k : Nat} : q_e2 most (q_e1 beam E) k = q_kp beam most E k := by
  cases hk : E k with
  | none =>
    have h1 : q_e1 beam E k = none := by unfold q_e1; rw [hk]
    unfold q_e2 q_kp
    rw [h1, hk]
  | some p =>
    obtain ⟨x, n⟩ := p
    have hkp : q_kp beam most E k = if x - e_I 0 (q_low E) ≤ beam ∧ (q_ahd E k : Int) < most then some (x, n) else none := by unfold q_kp; rw [hk]
    by_cases hb : x - e_I 0 (q_low E) ≤ beam
    · have h1 : q_e1 beam E k = some (x, n) := by unfold q_e1; rw [hk]; show (if _ then _ else _) = _; rw [if_pos hb]
      have h2 : q_e2 most (q_e1 beam E) k = if (q_ahd (q_e1 beam E) k : Int) < most then some (x, n) else none := by unfold q_e2; rw [h1]
      rw [h2, hkp, q_e1_ah hk hb]
      by_cases hm : (q_ahd E k : Int) < most
      · rw [if_pos hm, if_pos ⟨hb, hm⟩]
      · rw [if_neg hm, if_neg (fun h => hm h.2)]
    · have h1 : q_e1 beam E k = none := by unfold q_e1; rw [hk]; show (if _ then _ else _) = _; rw [if_neg hb]
      have h2 : q_e2 most (q_e1 beam E) k = none := by unfold q_e2; rw [h1]
      rw [h2, hkp, if_neg (fun h => hb h.1)]
def q_n1 (beam : Int) (E : Nat → Option (Int × Int)) (n : Nat) : Nat := e_cnt (fun k => (E k).isSome && (q_e1 beam E k).isNone) n
def q_n2 (most : Int) (E : Nat → Option (Int × Int)) (n : Nat) : Nat := e_cnt (fun k => (E k).isSome && (q_e2 most E k).isNone) n
theorem q_n12 {beam most : Int} {E : Nat → Option (Int × Int)} : ∀ n : Nat, q_n1 beam E n + q_n2 most (q_e1 beam E) n = e_cnt (fun k => (E k).isSome && (q_kp beam most E k).isNone) n := by
  intro n
  induction n with
  | zero => rfl
  | succ n ih =>
    show (q_n1 beam E n + (if ((E n).isSome && (q_e1 beam E n).isNone) = true then 1 else 0)) + (q_n2 most (q_e1 beam E) n + (if ((q_e1 beam E n).isSome && (q_e2 most (q_e1 beam E) n).isNone) = true then 1 else 0)) = e_cnt _ n + (if ((E n).isSome && (q_kp beam most E n).isNone) = true then 1 else 0)
    rw [q_e12, ← ih]
    have h : (if ((E n).isSome && (q_e1 beam E n).isNone) = true then 1 else 0) + (if ((q_e1 beam E n).isSome && (q_kp beam most E n).isNone) = true then 1 else 0) = (if ((E n).isSome && (q_kp beam most E n).isNone) = true then 1 else 0) := by
      cases hE : E n with
      | none =>
        have h1 : q_e1 beam E n = none := by unfold q_e1; rw [hE]
        rw [h1]; rfl
      | some p =>
        obtain ⟨x, m⟩ := p
        by_cases hb : x - e_I 0 (q_low E) ≤ beam
        · have h1 : q_e1 beam E n = some (x, m) := by unfold q_e1; rw [hE]; show (if _ then _ else _) = _; rw [if_pos hb]
          rw [h1]
          cases q_kp beam most E n <;> rfl
        · have h1 : q_e1 beam E n = none := by unfold q_e1; rw [hE]; show (if _ then _ else _) = _; rw [if_neg hb]
          have h2 : q_kp beam most E n = none := by unfold q_kp; rw [hE]; show (if _ then _ else _) = _; rw [if_neg (fun h => hb h.1)]
          rw [h1, h2]; rfl
    omega
