theorem q_mid_self {g : z_St} {H : Nat → Nat → Option (Int × Int)} {t w : Nat} {pr : Nat → Nat} {st0 st : z_St} (h : q_mid g H t w pr st0 st) : q_mid g H t w pr st st := ⟨fun _ _ _ => rfl, fun _ _ => ⟨rfl, rfl⟩, h.2.2⟩
theorem q_mid_trans {g : z_St} {H : Nat → Nat → Option (Int × Int)} {t w : Nat} {pr pr' : Nat → Nat} {st0 st1 st : z_St} (h : q_mid g H t w pr st0 st1) (k : q_mid g H t w pr' st1 st) : q_mid g H t w pr' st0 st := ⟨fun x a b => (k.1 x a b).trans (h.1 x a b), fun j hj => ⟨(k.2.1 j hj).1.trans (h.2.1 j hj).1, (k.2.1 j hj).2.trans (h.2.1 j hj).2⟩, k.2.2⟩
theorem q_his_mid {g : z_St} {H : Nat → Nat → Option (Int × Int)} {t w : Nat} {pr : Nat → Nat} {st0 st : z_St} (h : q_mid g H t w pr st0 st) (hw : w < 5) (hh : q_his g H (t - 1) st0) : q_his g H (t - 1) st := fun s k a b c => by
  have := hh s k a b c
  unfold q_rH at this ⊢
  have e := h.2.1 (20 * (s : Int) + k) (fun L hL => by omega)
  rw [h.1 194 (by decide) (by decide), e.1, e.2]; exact this
theorem s_ends_92 {g st0 : z_St} (hS : q_same g st0) (hB : q_RB g) (hT : q_tabOK g (fun _ _ => True) st0) {H : Nat → Nat → Option (Int × Int)} (hH : q_Hb g H) {t w : Nat} (ht : t ≤ g 168 2) (ht1 : 1 ≤ t) (hw : w < g 168 18) (hh : q_his g H (t - 1) st0)
    (h0 : q_mid g H t w (fun _ => 0) st0 st0) :
    q_ok (z_iter z_F (fun q9 : (Int × z_St) => J_X12_laysEnds_b92 t w q9.1 q9.2) (1, st0)) (fun st => q_mid g H t w (fun _ => 5 * (t - 1)) st0 st) := by
  have hw1 := hB.2.2.2.2.1.1
  have hf1 := hB.1.1
  refine q_for (fun i st => q_mid g H t w (fun _ => 5 * i) st0 st) 1 (t - 1) (by omega) h0 ?_ ?_
  · intro i st hi hI
    have hS1 : q_same g st := q_same_of hS (fun x a b => hI.1 x (by omega) (by omega))
    have hT1 : q_tabOK g (fun _ _ => True) st := q_tabOK_of hT (hI.1 183 (by decide) (by decide)) (hI.1 184 (by decide) (by decide))
    simp only [J_X12_laysEnds_b92, q_g, q_b, q_let, q_ite, q_some, z32, z64, true_or, or_true, true_and, and_true]
    refine ⟨by omega, fun _ => ?_, fun h9 => by omega⟩
    have key := s_ends_100 hS1 hB hT1 hH (t := t) (w := w) (f := 1 + i) ht hw (by omega) (q_his_mid hI (by omega) hh) (by
      have := q_mid_self hI
      rw [show 5 * (1 + i - 1) = 5 * i by omega]; exact this)
    rw [show ((1 + i : Nat) : Int) = 1 + (i : Int) by omega] at key
    refine q_mono key ?_
    intro st1 h1
    refine ⟨_, rfl, ?_⟩
    have := q_mid_trans hI h1
    rw [show 5 * (1 + i) = 5 * (i + 1) by omega] at this
    exact this
  · intro st hI
    simp only [J_X12_laysEnds_b92, q_g, q_b, q_let, q_ite, q_some, z32, z64, true_or, or_true, true_and, and_true]
    exact ⟨by omega, fun h9 => by omega, fun _ => ⟨_, rfl, hI⟩⟩
theorem s_X12_laysEnds {g st0 : z_St} (hS : q_same g st0) (hB : q_RB g) (hT : q_tabOK g (fun _ _ => True) st0) {H : Nat → Nat → Option (Int × Int)} (hH : q_Hb g H) {t : Nat} (ht : t ≤ g 168 2) (ht1 : 1 ≤ t) (hh : q_his g H (t - 1) st0) :
    q_ok (J_X12_laysEnds t st0) (fun st => q_ft t st0 st ∧ ∀ k : Nat, k < 20 → q_rE st (20 * (t : Int) + k) (q_E g H t k)) := by
  have hw1 := hB.2.2.2.2.1.1
  have hf1 := hB.1.1
  simp only [J_X12_laysEnds, q_g, q_b, q_let, q_ite, q_some, z32, z64, true_or, or_true, true_and, and_true]
  refine q_mono (P := fun st => q_ft t st0 st ∧ ∀ k : Nat, k < 20 → q_rE st (20 * (t : Int) + k) none) ?_ ?_
  · refine q_for0 (fun i st => q_ft t st0 st ∧ ∀ k : Nat, k < i → q_rE st (20 * (t : Int) + k) none) 20 (by decide) ⟨⟨fun _ _ _ _ => rfl, fun _ _ _ => rfl⟩, fun k hk => by omega⟩ ?_ ?_
    · rintro i st hi ⟨⟨i1, i2⟩, i3⟩
      simp only [J_X12_laysEnds_b2, q_g, q_b, q_let, q_ite, q_some, z32, z64, true_or, or_true, true_and, and_true]
      refine ⟨by omega, fun _ => ⟨by omega, by omega, by omega, _, rfl, ⟨fun x x1 x2 x3 => ?_, fun x j hj => ?_⟩, fun k hk => ?_⟩, fun h9 => by omega⟩
      · rw [q_up_row x3, q_up_row x1, q_up_row x2]; exact i1 x x1 x2 x3
      · rw [z_up_n (by omega), z_up_n (by omega), z_up_n (by omega)]; exact i2 x j hj
      · by_cases e : k = i
        · subst e
          exact ⟨by rw [q_up_row (by decide), q_up_row (by decide), z_up_at], by rw [q_up_row (by decide), z_up_at]⟩
        · have := i3 k (by omega)
          exact q_rE_of this (by rw [q_up_row (by decide), q_up_at, if_neg (by omega), q_up_row (by decide)]) (by rw [q_up_row (by decide), q_up_row (by decide), q_up_at, if_neg (by omega)])
    · rintro st ⟨i1, i3⟩
      simp only [J_X12_laysEnds_b2, q_g, q_b, q_let, q_ite, q_some, z32, z64, true_or, or_true, true_and, and_true]
      exact ⟨by decide, fun h9 => absurd h9 (by decide), fun _ => ⟨_, rfl, i1, i3⟩⟩
  rintro st1 ⟨⟨a1, a2⟩, a3⟩
  refine q_for0 (fun w st => q_ft t st0 st ∧ ∀ k : Nat, k < 20 → q_rE st (20 * (t : Int) + k) (if k % 5 < w then q_E g H t k else none)) (g 168 18).toNat (by omega) ⟨⟨a1, a2⟩, fun k hk => by rw [if_neg (by omega)]; exact a3 k hk⟩ ?_ ?_
  · rintro w st hw ⟨⟨i1, i2⟩, i3⟩
    have hS1 : q_same g st := q_same_of hS (fun x a b => i1 x (by omega) (by omega) (by omega))
    have hT1 : q_tabOK g (fun _ _ => True) st := q_tabOK_of hT (i1 183 (by decide) (by decide) (by decide)) (i1 184 (by decide) (by decide) (by decide))
    simp only [J_X12_laysEnds_b54, q_g, q_b, q_let, q_ite, q_some, z32, z64, true_or, or_true, true_and, and_true]
    rw [hS1.2 18 (by decide) (by decide)]
    refine ⟨by omega, fun _ => ?_, fun h9 => by omega⟩
    refine q_eq s_X12_end ?_
    refine q_eq (s_X12_tableOf (by omega)) ?_
    refine q_eq (s_X12_dear hS1 hB.2.2.2.2.2.2 hB.2.2.2.2.2.1 (by omega)) ?_
    have htb : e_bd 600000010000 (q_tab g w 0 t) := q_tab_bd hB (by omega)
    have htI := e_I_le (K := 1000000000000000000) htb (by decide) (by decide)
    have eT := (hT1 w 0 t (by omega) (by omega) (by omega) (by omega) (by omega) trivial).1
    have hdw := q_dear_w hB (v := w) (w := w) (by omega) (by omega)
    have hold := i3 w (by omega)
    rw [if_neg (by omega)] at hold
    rw [eT, show 20 * (t : Int) + 5 * (1 - 1) + w = 20 * (t : Int) + w by omega]
    refine q_mono (s_X12_comes (c := q_one1 g w t) (by omega) hold (fun x n h => nomatch h) (by omega) (by omega) ?_) ?_
    · cases hq : q_tab g w 0 t with
      | none => exact Or.inl ⟨by unfold q_one1; rw [hq], by rw [e_I_none]; omega⟩
      | some y => have := htb y hq; exact Or.inr ⟨by unfold q_one1; rw [hq, e_I_some], by rw [e_I_some]; omega⟩
    · rintro st2 ⟨b1, b2, b3⟩
      have hS2 : q_same g st2 := q_same_of hS1 (fun x a b => b1 x (by omega) (by omega))
      have hT2 : q_tabOK g (fun _ _ => True) st2 := q_tabOK_of hT1 (b1 183 (by decide) (by decide)) (b1 184 (by decide) (by decide))
      have hh2 : q_his g H (t - 1) st2 := fun s k a b c => by
        have := hh s k a b c
        refine q_rH_of this (fun x => ?_)
        have e : ∀ x, st2 x (20 * (s : Int) + k) = st x (20 * (s : Int) + k) := fun x => by
          by_cases x1 : x = 192
          · subst x1; exact (b2 _ (by omega)).1
          · by_cases x2 : x = 193
            · subst x2; exact (b2 _ (by omega)).2
            · rw [b1 x x1 x2]
        rw [e]; exact i2 x _ (by omega)
      have hmid : q_mid g H t w (fun _ => 0) st2 st2 := ⟨fun _ _ _ => rfl, fun _ _ => ⟨rfl, rfl⟩, fun L hL => by
        have h9 := i3 (5 * (L + 1) + w) (by omega)
        rw [if_neg (by omega)] at h9
        have e := b2 (20 * (t : Int) + ((5 * (L + 1) + w : Nat) : Int)) (by omega)
        exact q_rE_of h9 e.1 e.2⟩
      refine q_mono (s_ends_92 hS2 hB hT2 hH ht ht1 (w := w) (by omega) hh2 hmid) ?_
      rintro st3 ⟨c1, c2, c3⟩
      refine ⟨_, rfl, ⟨fun x x1 x2 x3 => by rw [c1 x x1 x2, b1 x x1 x2]; exact i1 x x1 x2 x3, fun x j hj => ?_⟩, fun k hk => ?_⟩
      · have e : st3 x j = st2 x j := by
          by_cases x1 : x = 192
          · subst x1; exact (c2 _ (fun L hL => by omega)).1
          · by_cases x2 : x = 193
            · subst x2; exact (c2 _ (fun L hL => by omega)).2
            · rw [c1 x x1 x2]
        have e2 : st2 x j = st x j := by
          by_cases x1 : x = 192
          · subst x1; exact (b2 _ (by omega)).1
          · by_cases x2 : x = 193
            · subst x2; exact (b2 _ (by omega)).2
            · rw [b1 x x1 x2]
        rw [e, e2]; exact i2 x j hj
      · by_cases e : k % 5 = w
        · rw [if_pos (by omega)]
          by_cases h5 : k < 5
          · have ek : k = w := by omega
            subst ek
            have e9 := c2 (20 * (t : Int) + k) (fun L hL => by omega)
            have hq : q_E g H t k = q_put none (q_one1 g k t) := by
              unfold q_E
              rw [if_pos (by omega), if_pos h5]
              cases q_one1 g k t with
              | none => rfl
              | some p => rfl
            rw [hq]
            exact q_rE_of b3 e9.1 e9.2
          · have h9 := c3 (k / 5 - 1) (by omega)
            rw [show 5 * (k / 5 - 1 + 1) + w = k by omega] at h9
            unfold q_E
            rw [if_pos (by omega), if_neg h5]
            exact h9
        · have h9 := i3 k hk
          have e1 := c2 (20 * (t : Int) + k) (fun L hL => by omega)
          have e2 := b2 (20 * (t : Int) + k) (by omega)
          by_cases h8 : k % 5 < w
          · rw [if_pos h8] at h9; rw [if_pos (by omega)]
            exact q_rE_of h9 (e1.1.trans e2.1) (e1.2.trans e2.2)
          · rw [if_neg h8] at h9; rw [if_neg (by omega)]
            exact q_rE_of h9 (e1.1.trans e2.1) (e1.2.trans e2.2)
  · rintro st ⟨⟨i1, i2⟩, i3⟩
    simp only [J_X12_laysEnds_b54, q_g, q_b, q_let, q_ite, q_some, z32, z64, true_or, or_true, true_and, and_true]
    rw [i1 168 (by decide) (by decide) (by decide), hS.2 18 (by decide) (by decide)]
    refine ⟨by omega, fun h9 => by omega, fun _ => ⟨_, rfl, ⟨i1, i2⟩, fun k hk => ?_⟩⟩
    have h9 := i3 k hk
    by_cases e : k % 5 < (g 168 18).toNat
    · rw [if_pos e] at h9; exact h9
    · rw [if_neg e] at h9
      have : q_E g H t k = none := by unfold q_E; rw [if_neg (by omega)]
      rw [this]; exact h9
-- drops
theorem q_aB_iff {y m x n : Int} : q_aB (some (y, m)) (some (x, n)) = true ↔ y < x ∨ (y = x ∧ m < n) := by
  unfold q_aB
  simp only [Bool.or_eq_true, Bool.and_eq_true, decide_eq_true_eq]
theorem s_X12_isAhead {st : z_St} {a b y m x n : Int} (ha : 0 ≤ a ∧ a < 340) (hb : 0 ≤ b ∧ b < 340) (h1 : st 192 a = y ∧ st 193 a = m) (h2 : st 192 b = x ∧ st 193 b = n) (hy : 0 ≤ y ∧ y ≤ 1000000000000000000 ∧ 0 ≤ x ∧ x ≤ 1000000000000000000 ∧ 0 ≤ m ∧ m ≤ 100000 ∧ 0 ≤ n ∧ n ≤ 100000) : J_X12_isAhead a b st = some (if y < x ∨ (y = x ∧ m < n) then 1 else 0) := by
  refine q_of ?_
  simp only [J_X12_isAhead, J_X12_isAhead_47, J_X12_isAhead_51, J_X12_isAhead_52, q_g, q_b, q_let, q_ite, q_some, z32, z64, true_or, or_true, true_and, and_true]
  rw [h1.1, h1.2, h2.1, h2.2]
  refine ⟨ha, hb, by omega, fun k => by rw [if_pos (Or.inl k)], fun k => ⟨ha, hb, by omega, fun k2 => ⟨ha, hb, by omega, fun k3 => by rw [if_pos (Or.inr ⟨k2, k3⟩)], fun k3 => by rw [if_neg (by omega)]⟩, fun k2 => by rw [if_neg (by omega)]⟩⟩
