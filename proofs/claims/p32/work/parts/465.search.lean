-- THE CLASS'S SEARCH: its ends
def q_cE (st : z_St) (a : Int) (o : Option (Int × Int)) : Prop := match o with
  | none => st 141 a = 1152921504606846976
  | some (x, n) => st 141 a = x ∧ st 142 a = n
theorem q_cE_of {st st' : z_St} {a : Int} {o : Option (Int × Int)} (h : q_cE st a o) (k1 : st' 141 a = st 141 a) (k2 : st' 142 a = st 142 a) : q_cE st' a o := by
  unfold q_cE at h ⊢
  rw [k1, k2]; exact h
theorem s_X8_putEnd {st0 : z_St} {a W N : Int} {o c : Option (Int × Int)} (ha : 0 ≤ a ∧ a < 340) (hr : q_cE st0 a o) (ho : ∀ x n, o = some (x, n) → 0 ≤ x ∧ x ≤ 10000000000000 ∧ 1 ≤ n ∧ n ≤ 100000) (hW : 0 ≤ W ∧ W ≤ 4000000000000000000) (hc : (c = none ∧ 1152921504606846976 ≤ W) ∨ (c = some (W, N) ∧ W < 1152921504606846976 ∧ 1 ≤ N ∧ N ≤ 100000)) :
    q_ok (J_X8_putEnd a W N st0) (fun st => (∀ x, x ≠ 141 → x ≠ 142 → st x = st0 x) ∧ (∀ j, j ≠ a → st 141 j = st0 141 j ∧ st 142 j = st0 142 j) ∧ q_cE st a (q_put o c)) := by
  have w41 : q_put o c = some (W, N) → q_ok (J_X8_putEnd_41 a W N st0) (fun st => (∀ x, x ≠ 141 → x ≠ 142 → st x = st0 x) ∧ (∀ j, j ≠ a → st 141 j = st0 141 j ∧ st 142 j = st0 142 j) ∧ q_cE st a (q_put o c)) := by
    intro h
    simp only [J_X8_putEnd_41, J_X8_putEnd_56, q_g, q_b, q_let, q_ite, q_some, z32, z64, true_or, or_true, true_and, and_true]
    refine ⟨ha, ha, fun x x1 x2 => by rw [q_up_row x2, q_up_row x1], fun j hj => ⟨by rw [q_up_row (by decide), q_up_at, if_neg hj], by rw [q_up_at, if_neg hj, q_up_row (by decide)]⟩, ?_⟩
    rw [h]
    exact ⟨by rw [q_up_row (by decide), z_up_at], by rw [z_up_at]⟩
  have w56 : q_put o c = o → q_ok (J_X8_putEnd_56 st0) (fun st => (∀ x, x ≠ 141 → x ≠ 142 → st x = st0 x) ∧ (∀ j, j ≠ a → st 141 j = st0 141 j ∧ st 142 j = st0 142 j) ∧ q_cE st a (q_put o c)) := by
    intro h
    simp only [J_X8_putEnd_56, q_g, q_b, q_let, q_ite, q_some, z32, z64, true_or, or_true, true_and, and_true]
    exact ⟨fun _ _ _ => trivial, fun _ _ => trivial, by rw [h]; exact hr⟩
  simp only [J_X8_putEnd, q_g, q_b, q_let, q_ite, q_some, z32, z64, true_or, or_true, true_and, and_true]
  rcases hc with ⟨rfl, hW2⟩ | ⟨rfl, hW2, hN⟩
  · exact ⟨by omega, fun h9 => by omega, fun _ => w56 rfl⟩
  · cases o with
    | none =>
      have r1 : st0 141 a = 1152921504606846976 := hr
      rw [r1]
      exact ⟨by omega, fun _ => ⟨ha, by omega, fun _ => w41 rfl, fun h9 => by omega⟩, fun h9 => by omega⟩
    | some p =>
      obtain ⟨y, m⟩ := p
      obtain ⟨r1, r2⟩ := hr
      have hob := ho y m rfl
      have hput : q_put (some (y, m)) (some (W, N)) = if W < y ∨ (W = y ∧ N < m) then some (W, N) else some (y, m) := rfl
      rw [r1, r2]
      refine ⟨by omega, fun _ => ⟨ha, by omega, fun h1 => w41 (by rw [hput, if_pos (Or.inl h1)]), fun h1 => ⟨ha, by omega, fun h2 => ⟨ha, by omega, fun h3 => w41 (by rw [hput, if_pos (Or.inr ⟨h2, h3⟩)]), fun h3 => w56 (by rw [hput, if_neg (by omega)])⟩, fun h2 => w56 (by rw [hput, if_neg (by omega)])⟩⟩, fun h9 => by omega⟩
theorem q_Hs_out {g : z_St} {beam most : Int} : ∀ {T s k : Nat}, (s = 0 ∨ T < s) → q_Hs g beam most T s k = none := by
  intro T
  induction T with
  | zero => intro s k _; rfl
  | succ T ih =>
    intro s k h
    show (if s = T + 1 then _ else _) = _
    rw [if_neg (by omega)]
    exact ih (by omega)
/-- what is kept so far, in the class -/
def q_hC (H : Nat → Nat → Option (Int × Int)) (t : Nat) (st : z_St) : Prop := ∀ s k : Nat, s < t → k < 20 → q_cE st (20 * (s : Int) + k) (H s k)
/-- only one end changes -/
def q_1 (a : Int) (st0 st : z_St) : Prop := (∀ x, x ≠ 141 → x ≠ 142 → st x = st0 x) ∧ ∀ j, j ≠ a → st 141 j = st0 141 j ∧ st 142 j = st0 142 j
theorem q_1_trans {a : Int} {s0 s1 s2 : z_St} (h : q_1 a s0 s1) (k : q_1 a s1 s2) : q_1 a s0 s2 := ⟨fun x p q => (k.1 x p q).trans (h.1 x p q), fun j hj => ⟨(k.2 j hj).1.trans (h.2 j hj).1, (k.2 j hj).2.trans (h.2 j hj).2⟩⟩
theorem q_1_refl {a : Int} {s0 : z_St} : q_1 a s0 s0 := ⟨fun _ _ _ => rfl, fun _ _ => ⟨rfl, rfl⟩⟩
theorem s_X8_lengthen {g st0 : z_St} (hB : q_RB g) (hT : q_TC g st0) {H : Nat → Nat → Option (Int × Int)} (hH : q_Hb g H) {t L w : Nat} (ht : t ≤ g 168 2) (ht1 : 1 ≤ t) (hL : L < 3) (hw : w < g 168 18) (hh : q_hC H t st0) (h0 : q_cE st0 (20 * (t : Int) + ((5 * (L + 1) + w : Nat) : Int)) none) :
    q_ok (J_X8_lengthen (g 168 18) t ((L : Int) + 2) w st0) (fun st => q_1 (20 * (t : Int) + ((5 * (L + 1) + w : Nat) : Int)) st0 st ∧ q_cE st (20 * (t : Int) + ((5 * (L + 1) + w : Nat) : Int)) (q_lp (q_cand g H t (5 * (L + 1) + w)) (5 * (t - 1)))) := by
  have hw1 := hB.2.2.2.2.1.1
  have hf1 := hB.1.1
  obtain ⟨K, hK⟩ : ∃ K, 5 * (L + 1) + w = K := ⟨_, rfl⟩
  have hKm : K % 5 = w := by omega
  have hKd : K / 5 - 1 = L := by omega
  rw [hK] at h0 ⊢
  have hcob : ∀ j, q_ob K (q_cand g H t K j) := fun j => q_cand_ob hB hH (by omega) (by omega) (by omega) ht
  simp only [J_X8_lengthen, q_g, q_b, q_let, q_ite, q_some, z32, z64, true_or, or_true, true_and, and_true]
  refine q_for (fun i st => q_1 (20 * (t : Int) + K) st0 st ∧ q_cE st (20 * (t : Int) + K) (q_lp (q_cand g H t K) (5 * i))) 1 (t - 1) (by omega) ⟨q_1_refl, h0⟩ ?_ ?_
  · rintro i st hi ⟨i1, i2⟩
    have hT1 : q_TC g st := q_TC_of hT hB (fun x a b => by unfold q_isT at a; exact i1.1 x (by omega) (by omega))
    simp only [J_X8_lengthen_b3, q_g, q_b, q_let, q_ite, q_some, z32, z64, true_or, or_true, true_and, and_true]
    refine ⟨by omega, fun _ => ?_, fun h9 => by omega⟩
    refine q_eq (s_X0_span (by omega)) ?_
    have eT := hT1.2.2.1 w ((1 + i : Nat) : Int) t (by omega) (by omega) (by omega) (by omega) (by omega)
    rw [show 289 * (w : Int) + 17 * (1 + (i : Int)) + t = 289 * (w : Int) + 17 * ((1 + i : Nat) : Int) + t by omega, eT]
    have htb : e_bd 600000010000 (q_tab g w ((1 + i : Nat) : Int) t) := q_tab_bd hB (by omega)
    have htI := e_I_le (K := 1152921504606846976) htb (by decide) (by decide)
    have ecand : ∀ l, l < 5 → q_cand g H t K (5 * i + l) = q_ext g w l (H (1 + i) (5 * L + l)) (q_tab g w ((1 + i : Nat) : Int) t) := fun l hl => by
      unfold q_cand
      rw [hKm, hKd, show (5 * i + l) % 5 = l by omega, show 1 + (5 * i + l) / 5 = 1 + i by omega]
    refine q_mono (P := fun st1 => q_1 (20 * (t : Int) + K) st0 st1 ∧ q_cE st1 (20 * (t : Int) + K) (q_lp (q_cand g H t K) (5 * (i + 1)))) ?_ (fun st1 h1 => ⟨_, rfl, h1⟩)
    cases hq : q_tab g w ((1 + i : Nat) : Int) t with
    | none =>
      have hall : q_lp (q_cand g H t K) (5 * (i + 1)) = q_lp (q_cand g H t K) (5 * i) := q_lp_skip (by omega) (fun j j1 j2 => by
        rw [show j = 5 * i + (j - 5 * i) by omega, ecand _ (by omega), hq]
        unfold q_ext
        cases H (1 + i) (5 * L + (j - 5 * i)) with
        | none => rfl
        | some p => rfl)
      rw [e_I_none, hall]
      refine q_for0 (fun _ s => s = st) 0 (by decide) rfl (fun k s hk => by omega) ?_
      rintro s rfl
      simp only [J_X8_lengthen_b23, q_g, q_b, q_let, q_ite, q_some, z32, z64, true_or, or_true, true_and, and_true]
      exact ⟨by omega, fun _ => ⟨by decide, fun h9 => absurd h9 (by decide), fun _ => ⟨_, rfl, i1, i2⟩⟩, fun _ => ⟨_, rfl, i1, i2⟩⟩
    | some y =>
      have hy := htb y hq
      rw [e_I_some]
      refine q_for0 (fun l s => q_1 (20 * (t : Int) + K) st0 s ∧ q_cE s (20 * (t : Int) + K) (q_lp (q_cand g H t K) (5 * i + l))) (g 168 18).toNat (by omega) ⟨i1, i2⟩ ?_ ?_
      · rintro l s hl ⟨k1, k2⟩
        have hT2 : q_TC g s := q_TC_of hT hB (fun x a b => by unfold q_isT at a; exact k1.1 x (by omega) (by omega))
        have hal : q_cE s (20 * ((1 + i : Nat) : Int) + ((5 * L + l : Nat) : Int)) (H (1 + i) (5 * L + l)) := by
          have e := k1.2 (20 * ((1 + i : Nat) : Int) + ((5 * L + l : Nat) : Int)) (by omega)
          exact q_cE_of (hh (1 + i) (5 * L + l) (by omega) (by omega)) e.1 e.2
        simp only [J_X8_lengthen_b23, q_g, q_b, q_let, q_ite, q_some, z32, z64, true_or, or_true, true_and, and_true]
        refine ⟨by omega, fun _ => ⟨by omega, fun _ => ⟨by omega, ?_⟩, fun h9 => by omega⟩, fun h9 => by omega⟩
        refine q_eq (q_toll hT2 (by omega) (by omega) hw1.2) ?_
        rw [if_neg (by omega), if_neg (by omega)]
        have hdw := q_dear_w hB (v := l) (w := w) (by omega) hw
        refine ⟨by omega, ?_⟩
        rw [show (1 + (i : Int)) * 20 + ((L : Int) + 2 - 2) * 5 + l = 20 * ((1 + i : Nat) : Int) + ((5 * L + l : Nat) : Int) by omega, show (t : Int) * 20 + ((L : Int) + 2 - 1) * 5 + w = 20 * (t : Int) + K by omega]
        have es : q_lp (q_cand g H t K) (5 * i + (l + 1)) = q_put (q_lp (q_cand g H t K) (5 * i + l)) (q_ext g w l (H (1 + i) (5 * L + l)) (some y)) := by
          rw [← hq, ← ecand l (by omega)]; rfl
        have hxb := q_ob_at (k := 5 * L + l) (by omega) (hH (1 + i) (5 * L + l)).1
        have h41 : 0 ≤ s 141 (20 * ((1 + i : Nat) : Int) + ((5 * L + l : Nat) : Int)) ∧ s 141 (20 * ((1 + i : Nat) : Int) + ((5 * L + l : Nat) : Int)) ≤ 1152921504606846976 := by
          cases hH9 : H (1 + i) (5 * L + l) with
          | none => rw [hH9] at hal; have : s 141 _ = 1152921504606846976 := hal; omega
          | some p => obtain ⟨x, n⟩ := p; rw [hH9] at hal; have := hxb x n hH9; have := hal.1; omega
        refine q_mono (s_X8_putEnd (c := q_ext g w l (H (1 + i) (5 * L + l)) (some y)) (by omega) k2 (q_ob_at (by omega) (q_ob_lp fun j _ => hcob j)) (by omega) ?_) ?_
        · cases hH9 : H (1 + i) (5 * L + l) with
          | none =>
            rw [hH9] at hal
            have : s 141 _ = 1152921504606846976 := hal
            exact Or.inl ⟨rfl, by omega⟩
          | some p =>
            obtain ⟨x, n⟩ := p
            rw [hH9] at hal
            have h5 := hxb x n hH9
            have h6 := (hH (1 + i) (5 * L + l)).1 x n hH9
            have hn : n < 1000 := by
              have h4 := h6.2.2.2
              (repeat' split at h4) <;> omega
            have e1 := hal.1
            have e2 := hal.2
            rw [e1, e2]
            refine Or.inr ⟨?_, by omega, by omega, by omega⟩
            show some (x + y + q_dear g l w, 10 * n + w + 1) = _
            rw [show 10 * n + (w : Int) + 1 = n * 10 + w + 1 by omega]
        · rintro s2 ⟨c1, c2, c3⟩
          refine ⟨_, rfl, q_1_trans k1 ⟨c1, c2⟩, ?_⟩
          rw [es]; exact c3
      · rintro s ⟨k1, k2⟩
        simp only [J_X8_lengthen_b23, q_g, q_b, q_let, q_ite, q_some, z32, z64, true_or, or_true, true_and, and_true]
        refine ⟨by omega, fun h9 => by omega, fun _ => ⟨_, rfl, k1, ?_⟩⟩
        rw [q_lp_skip (a := 5 * i + (g 168 18).toNat) (b := 5 * (i + 1)) (by omega) (fun j j1 j2 => by
          rw [show j = 5 * i + (j - 5 * i) by omega, ecand _ (by omega), (hH (1 + i) (5 * L + (j - 5 * i))).2 (by omega)]
          rfl)]
        exact k2
  · rintro st ⟨i1, i2⟩
    simp only [J_X8_lengthen_b3, q_g, q_b, q_let, q_ite, q_some, z32, z64, true_or, or_true, true_and, and_true]
    exact ⟨by omega, fun h9 => by omega, fun _ => ⟨_, rfl, i1, i2⟩⟩
