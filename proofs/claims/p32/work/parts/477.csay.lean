-- THE CLASS'S TRACK: fillTails, sayAll, sayWord, fill
theorem s_X10_fillTails {g st0 : z_St} (hC : q_C g st0) (hB : q_RB g) (hT : q_TC g st0) {sa : Int} (hsa : q_said g sa) (hK : q_kind g sa st0) {f t : Nat} (hft : f < t ∧ t ≤ g 168 2) :
    q_ok (J_X10_fillTails (59 + 3 * sa) f t st0) (fun st => (∀ x, x ≠ 157 → st x = st0 x) ∧ ∀ r e : Nat, r ≤ g 179 sa → e ≤ t - f → st 157 ((g 179 sa - r) * 17 + (t - e)) = e_I 1152921504606846976 (q_Tl g sa t r e)) := by
  have hf1 := hB.1.1
  have hs1 := hsa.1
  have hs2 := hsa.2.1
  have hl := (hC.2.2.2.2.1.2.2 sa (by omega) (by omega)).1
  simp only [J_X10_fillTails, q_g, q_b, q_let, q_ite, q_some, z32, z64, true_or, or_true, true_and, and_true]
  refine q_mono (s_J7_fill (nn := 85) (x0 := 157) (x1 := 1152921504606846976) (by decide)) ?_
  rintro st1 ⟨a1, a2⟩
  have hl1 : st1 (59 + 3 * sa) 2 = g 179 sa := by rw [a1 _ (by omega)]; exact hl
  rw [hl1]
  refine ⟨by omega, ?_⟩
  have hz0 : q_Tl g sa t 0 0 = some 0 := by unfold q_Tl q_G; rfl
  have hz1 : ∀ e, q_Tl g sa t 0 (e + 1) = none := fun e => by unfold q_Tl; rw [q_G_1]
  have hz2 : ∀ r, q_Tl g sa t (r + 1) 0 = none := fun r => by unfold q_Tl; rw [q_G_0]
  have hK1 : ∀ st : z_St, (∀ x, x ≠ 157 → st x = st0 x) → q_kind g sa st := fun st h => q_kind_of hK (h _ (by omega))
  have hN1 : ∀ st : z_St, (∀ x, x ≠ 157 → st x = st0 x) → q_near g st := fun st h => q_near_of hT.1 hB (fun x a b => h x (by omega))
  refine q_ford (fun e st => (∀ x, x ≠ 157 → st x = st0 x) ∧ (∀ r e' : Nat, r ≤ g 179 sa → (e' ≤ e ∨ r = 0) → e' ≤ t - f → st 157 ((g 179 sa - r) * 17 + (t - e')) = e_I 1152921504606846976 (q_Tl g sa t r e'))) ((t : Int) - 1) (t - f) (by omega) ⟨fun x hx => by rw [q_up_row hx]; exact a1 x hx, fun r e' b c d => ?_⟩ ?_ ?_
  · rw [q_up_at, a2]
    cases r with
    | zero =>
      cases e' with
      | zero => rw [if_pos (by omega), hz0]; rfl
      | succ e' => rw [if_neg (by omega), if_pos (by omega), hz1]; rfl
    | succ r =>
      have : e' = 0 := by omega
      subst this
      rw [if_neg (by omega), if_pos (by omega), hz2]; rfl
  · rintro e st he ⟨i1, i2⟩
    have hlS : st (59 + 3 * sa) 2 = g 179 sa := by rw [i1 _ (by omega)]; exact hl
    simp only [J_X10_fillTails_b32, q_g, q_b, q_let, q_ite, q_some, z32, z64, true_or, or_true, true_and, and_true]
    refine ⟨by omega, fun h9 => by omega, fun _ => ?_⟩
    rw [hlS]
    refine q_mono (P := fun st => (∀ x, x ≠ 157 → st x = st0 x) ∧ (∀ r e' : Nat, r ≤ g 179 sa → (e' ≤ e + 1 ∨ r = 0) → e' ≤ t - f → st 157 ((g 179 sa - r) * 17 + (t - e')) = e_I 1152921504606846976 (q_Tl g sa t r e'))) ?_ (fun st1 h1 => ⟨_, rfl, h1⟩)
    refine q_ford (fun r st => (∀ x, x ≠ 157 → st x = st0 x) ∧ (∀ r' e' : Nat, r' ≤ g 179 sa → (e' ≤ e ∨ r' = 0 ∨ (e' = e + 1 ∧ r' ≤ r)) → e' ≤ t - f → st 157 ((g 179 sa - r') * 17 + (t - e')) = e_I 1152921504606846976 (q_Tl g sa t r' e'))) (g 179 sa - 1) (g 179 sa).toNat (by omega) ⟨i1, fun r' e' b c d => i2 r' e' b (by omega) d⟩ ?_ ?_
    · rintro r st hr ⟨k1, k2⟩
      have e1 := k2 (r + 1) e (by omega) (by omega) (by omega)
      have e2 := k2 r e (by omega) (by omega) (by omega)
      have b1 := q_Tl_bd hB hsa (t := t) (r := r + 1) (e := e) (by omega)
      have b2 := q_Tl_bd hB hsa (t := t) (r := r) (e := e) (by omega)
      have b3 := e_bd_min b1 b2
      have c1 := e_I_le (K := 1152921504606846976) b1 (by decide) (by decide)
      have c2 := e_I_le (K := 1152921504606846976) b2 (by decide) (by decide)
      have c3 := e_I_le (K := 1152921504606846976) b3 (by decide) (by decide)
      have hmin := e_min_N (K := 1152921504606846976) b1 b2 (by decide)
      have hcb := q_cb_bd hB hsa (t := t) (r := r) (e := e) (by omega)
      have hadd := e_addc_N (K := 1152921504606846976) (c := q_cb g sa t r e) b3 (by decide)
      rw [← q_Tl_s] at hadd
      have hkb := q_kind_bd hB hsa (p := g 179 sa - 1 - r) (by omega)
      have hc := hB.2.2.1.1
      have ek := hK1 st k1 (g 179 sa - 1 - r) (by omega) (by omega)
      have en := hN1 st k1 (g 180 (4 * sa + (g 179 sa - 1 - r))) (q_form g sa (g 179 sa - 1 - r)) ((t : Int) - 1 - e) (by omega) (by omega) (by omega) (by omega) (by omega) (by omega)
      have hcbe : q_cost g ((t : Int) - 1 - e) (g 180 (4 * sa + (g 179 sa - 1 - r))) (q_form g sa (g 179 sa - 1 - r)) = q_cb g sa t r e := rfl
      rw [hcbe] at en
      have fin : ∀ v : Int, v = e_I 1152921504606846976 (q_Tl g sa t (r + 1) (e + 1)) → (0 ≤ (g 179 sa - 1 - r) * 17 + ((t : Int) - 1 - e) ∧ (g 179 sa - 1 - r) * 17 + ((t : Int) - 1 - e) < 85) ∧ ∃ s', (Sum.inl (g 179 sa - 1 - (r : Int) + -1, z_up st 157 ((g 179 sa - 1 - r) * 17 + ((t : Int) - 1 - e)) v) : (Int × z_St) ⊕ z_St) = .inl (g 179 sa - 1 - (r : Int) + -1, s') ∧ (∀ x, x ≠ 157 → s' x = st0 x) ∧ (∀ r' e' : Nat, r' ≤ g 179 sa → (e' ≤ e ∨ r' = 0 ∨ (e' = e + 1 ∧ r' ≤ r + 1)) → e' ≤ t - f → s' 157 ((g 179 sa - r') * 17 + (t - e')) = e_I 1152921504606846976 (q_Tl g sa t r' e')) := by
        intro v hv
        refine ⟨by omega, _, rfl, fun x hx => (q_up_row hx).trans (k1 x hx), fun r' e' b c d => ?_⟩
        rw [q_up_at]
        by_cases e9 : r' = r + 1 ∧ e' = e + 1
        · obtain ⟨rfl, rfl⟩ := e9
          rw [if_pos (by omega)]; exact hv
        · rw [if_neg (by omega)]
          exact k2 r' e' b (by omega) d
      simp only [J_X10_fillTails_b46, J_X10_fillTails_145, q_g, q_b, q_let, q_ite, q_some, z32, z64, true_or, or_true, true_and, and_true]
      rw [show (g 179 sa - 1 - (r : Int) + 1) * 17 + ((t : Int) - 1 - e) + 1 = (g 179 sa - r) * 17 + (t - e) by omega, e2, show (g 179 sa - 1 - (r : Int)) * 17 + ((t : Int) - 1 - e) + 1 = (g 179 sa - ((r + 1 : Nat) : Int)) * 17 + (t - e) by omega, e1, ek, en, Int.min_comm, hmin]
      refine ⟨by omega, fun h9 => by omega, fun _ => ⟨by omega, by omega, by omega, by omega, by omega, by omega, by omega, fun hlt => ?_, fun hge => ?_⟩⟩
      · rw [if_pos hlt] at hadd; exact fin _ hadd.symm
      · rw [if_neg hge] at hadd; exact fin _ hadd.symm
    · rintro st ⟨k1, k2⟩
      simp only [J_X10_fillTails_b46, q_g, q_b, q_let, q_ite, q_some, z32, z64, true_or, or_true, true_and, and_true]
      exact ⟨by omega, fun _ => ⟨_, rfl, k1, fun r e' b c d => k2 r e' b (by omega) d⟩, fun h9 => by omega⟩
  · rintro st ⟨i1, i2⟩
    simp only [J_X10_fillTails_b32, q_g, q_b, q_let, q_ite, q_some, z32, z64, true_or, or_true, true_and, and_true]
    exact ⟨by omega, fun _ => ⟨_, rfl, i1, fun r e b c => i2 r e b (by omega) c⟩, fun h9 => by omega⟩
/-- what the class tells of the FRAMES from f up to t -/
def q_ft6 (st : z_St) (f t : Nat) (v : Nat → Int → Int) : Prop := ∀ i : Nat, f + i < t → ∀ c : Int, 0 ≤ c → c < 6 → st (150 + c) ((f + i : Nat) : Int) = v i c
theorem s_sayWord_84 {g st0 : z_St} (hC : q_C g st0) (hB : q_RB g) {place w ch : Int} {f t : Nat} (hw : 0 ≤ w ∧ w < g 168 18) (hch : 0 ≤ ch ∧ ch < g 178 w) (hK : q_kind g (2 * w + ch) st0) (hft : f < t ∧ t ≤ g 168 2)
    (h157 : ∀ r e : Nat, r ≤ g 179 (2 * w + ch) → e ≤ t - f → st0 157 ((g 179 (2 * w + ch) - r) * 17 + (t - e)) = e_I 1152921504606846976 (q_Tl g (2 * w + ch) t r e)) {u : Int} (hu : q_Tl g (2 * w + ch) t (g 179 (2 * w + ch)).toNat (t - f) = some u) :
    q_ok (J_X10_sayWord_84 place w f t ch (59 + 3 * (2 * w + ch)) st0) (fun st => (∀ x, (x < 150 ∨ 155 < x) → st x = st0 x) ∧ (∀ x j, (j < (f : Int) ∨ (t : Int) ≤ j) → st x j = st0 x j) ∧ q_ft6 st f t (q_tw g place w ch f t)) := by
  have hf1 := hB.1.1
  have hw1 := hB.2.2.2.2.1.1
  have hw2 := hB.2.2.2.2.1.2.1 w (by omega) (by omega)
  have hsa := q_said_of hB.2.2.2.2.1 (w := w) (k := ch) (by omega)
  obtain ⟨sa, hsa9⟩ : ∃ sa, 2 * w + ch = sa := ⟨_, rfl⟩
  rw [hsa9] at hsa hK h157 hu ⊢
  have hs1 := hsa.1
  have hs2 := hsa.2.1
  have hl := (hC.2.2.2.2.1.2.2 sa (by omega) (by omega)).1
  simp only [J_X10_sayWord_84, q_g, q_b, q_let, q_ite, q_some, z32, z64, true_or, or_true, true_and, and_true]
  refine q_mono (P := fun st => (∀ x, (x < 150 ∨ 152 < x) → st x = st0 x) ∧ (∀ x j, (j < (f : Int) ∨ (t : Int) ≤ j) → st x j = st0 x j) ∧ ∀ i : Nat, f + i < t → st 150 ((f + i : Nat) : Int) = place ∧ st 151 ((f + i : Nat) : Int) = w ∧ st 152 ((f + i : Nat) : Int) = ch) ?_ ?_
  · refine q_for (fun i st => (∀ x, (x < 150 ∨ 152 < x) → st x = st0 x) ∧ (∀ x j, (j < (f : Int) ∨ (t : Int) ≤ j) → st x j = st0 x j) ∧ ∀ i' : Nat, i' < i → st 150 ((f + i' : Nat) : Int) = place ∧ st 151 ((f + i' : Nat) : Int) = w ∧ st 152 ((f + i' : Nat) : Int) = ch) (f : Int) (t - f) (by omega) ⟨fun _ _ => rfl, fun _ _ _ => rfl, fun i' h => by omega⟩ ?_ ?_
    · rintro i st hi ⟨i1, i2, i3⟩
      simp only [J_X10_sayWord_b88, q_g, q_b, q_let, q_ite, q_some, z32, z64, true_or, or_true, true_and, and_true]
      refine ⟨by omega, fun _ => ⟨by omega, by omega, by omega, by omega, by omega, by omega, _, rfl, fun x hx => ?_, fun x j hj => ?_, fun i' hi' => ?_⟩, fun h9 => by omega⟩
      · rw [q_up_row (by omega), q_up_row (by omega), q_up_row (by omega)]; exact i1 x hx
      · rw [z_up_n (by omega), z_up_n (by omega), z_up_n (by omega)]; exact i2 x j hj
      · by_cases e : i' = i
        · subst e
          rw [show ((f + i' : Nat) : Int) = (f : Int) + i' by omega]
          refine ⟨?_, ?_, ?_⟩
          · rw [q_up_row (show (150 : Int) ≠ 150 + 2 by decide), q_up_row (show (150 : Int) ≠ 150 + 1 by decide)]
            show z_up st (150 + 0) ((f : Int) + i') place (150 + 0) ((f : Int) + i') = place
            rw [z_up_at]
          · rw [q_up_row (show (151 : Int) ≠ 150 + 2 by decide)]
            show z_up _ (150 + 1) ((f : Int) + i') w (150 + 1) ((f : Int) + i') = w
            rw [z_up_at]
          · show z_up _ (150 + 2) ((f : Int) + i') ch (150 + 2) ((f : Int) + i') = ch
            rw [z_up_at]
        · have := i3 i' (by omega)
          refine ⟨?_, ?_, ?_⟩
          · rw [z_up_n (by omega), z_up_n (by omega), z_up_n (by omega)]; exact this.1
          · rw [z_up_n (by omega), z_up_n (by omega), z_up_n (by omega)]; exact this.2.1
          · rw [z_up_n (by omega), z_up_n (by omega), z_up_n (by omega)]; exact this.2.2
    · rintro st ⟨i1, i2, i3⟩
      simp only [J_X10_sayWord_b88, q_g, q_b, q_let, q_ite, q_some, z32, z64, true_or, or_true, true_and, and_true]
      exact ⟨by omega, fun h9 => by omega, fun _ => ⟨_, rfl, i1, i2, fun i' hi' => i3 i' (by omega)⟩⟩
  · rintro st1 ⟨a1, a2, a3⟩
    simp only [J_X10_sayAll, q_g, q_b, q_let, q_ite, q_some, z32, z64, true_or, or_true, true_and, and_true]
    refine q_loop (fun q => ∃ i : Nat, q.2.1 = (f : Int) + i ∧ f + i ≤ t ∧ q.1 = (q_ks g sa t (t - f) i : Nat) ∧ (∀ x, (x < 153 ∨ 155 < x) → q.2.2 x = st1 x) ∧ (∀ x j, (j < (f : Int) ∨ (t : Int) ≤ j) → q.2.2 x j = st1 x j) ∧ ∀ i' : Nat, i' < i → ∀ c : Int, 3 ≤ c → c < 6 → q.2.2 (150 + c) ((f + i' : Nat) : Int) = q_tw g place w ch f t i' c) (fun q => (t - q.2.1).toNat) ⟨0, by show (f : Int) = _; omega, by omega, rfl, fun _ _ => rfl, fun _ _ _ => rfl, fun i' h => by omega⟩ (by show ((t : Int) - f).toNat < _; omega) ?_
    rintro ⟨v8, v9, st⟩ ⟨i, i1, i2, i3, i4, i5, i6⟩
    dsimp only at i1 i3 i4 i5 i6
    subst i1 i3
    have hks := q_ks_spec hu i (by omega)
    obtain ⟨p, hp⟩ : ∃ p, q_ks g sa t (t - f) i = p := ⟨_, rfl⟩
    rw [hp] at hks ⊢
    have e0 : ∀ x, (x < 150 ∨ 155 < x) → st x = st0 x := fun x hx => (i4 x (by omega)).trans (a1 x (by omega))
    have hlS : st (59 + 3 * sa) 2 = g 179 sa := by rw [e0 _ (by omega)]; exact hl
    have fin : f + i = t → (∀ x, (x < 150 ∨ 155 < x) → st x = st0 x) ∧ (∀ x j, (j < (f : Int) ∨ (t : Int) ≤ j) → st x j = st0 x j) ∧ q_ft6 st f t (q_tw g place w ch f t) := fun hi => by
      refine ⟨e0, fun x j hj => (i5 x j hj).trans (a2 x j hj), fun i' hi' c c0 c6 => ?_⟩
      by_cases hc : 3 ≤ c
      · exact i6 i' (by omega) c hc c6
      · have h3 := a3 i' hi'
        rw [i4 (150 + c) (by omega)]
        unfold q_tw
        have hc3 : c = 0 ∨ c = 1 ∨ c = 2 := by omega
        rcases hc3 with rfl | rfl | rfl
        · rw [if_pos rfl]; exact h3.1
        · rw [if_neg (by decide), if_pos rfl]; exact h3.2.1
        · rw [if_neg (by decide), if_neg (by decide), if_pos rfl]; exact h3.2.2
    simp only [J_X10_sayAll_b6, J_X10_sayAll_118, q_g, q_b, q_let, q_ite, q_some, z32, z64, true_or, or_true, true_and, and_true]
    refine ⟨by omega, fun hlt => ?_, fun hge => fin (by omega)⟩
    have hpl := hks.2.2 (by omega)
    have hkb := q_kind_bd hB hsa (p := (p : Int)) (by omega)
    have hc9 := hB.2.2.1.1
    have ek : st (59 + 3 * sa + 2) p = g 180 (4 * sa + p) * 4 + q_form g sa p := by rw [e0 _ (by omega)]; exact hK p (by omega) (by omega)
    have k1 : (g 180 (4 * sa + p) * 4 + q_form g sa p).tdiv 4 = g 180 (4 * sa + p) := by rw [Int.tdiv_eq_ediv_of_nonneg (by omega)]; omega
    have k2 : (g 180 (4 * sa + p) * 4 + q_form g sa p).tmod 4 = q_form g sa p := by rw [Int.tmod_eq_emod_of_nonneg (by omega)]; omega
    obtain ⟨X, hX⟩ : ∃ X : Int, (f : Int) + i = X := ⟨_, rfl⟩
    rw [hX, hlS, ek, k1, k2]
    obtain ⟨s', hs'⟩ : ∃ s', z_up (z_up (z_up st (150 + 3) X p) (150 + 4) X (g 180 (4 * sa + p))) (150 + 5) X (q_form g sa p) = s' := ⟨_, rfl⟩
    have r1 : ∀ x, (x < 153 ∨ 155 < x) → s' x = st x := fun x hx => by rw [← hs', q_up_row (by omega), q_up_row (by omega), q_up_row (by omega)]
    have r2 : ∀ x j, j ≠ X → s' x j = st x j := fun x j hj => by rw [← hs', z_up_n (by omega), z_up_n (by omega), z_up_n (by omega)]
    have r3 : s' (150 + 3) X = p ∧ s' (150 + 4) X = g 180 (4 * sa + p) ∧ s' (150 + 5) X = q_form g sa p := by
      rw [← hs']
      refine ⟨?_, ?_, ?_⟩
      · rw [q_up_row (show (150 + 3 : Int) ≠ 150 + 5 by decide), q_up_row (show (150 + 3 : Int) ≠ 150 + 4 by decide), z_up_at]
      · rw [q_up_row (show (150 + 4 : Int) ≠ 150 + 5 by decide), z_up_at]
      · rw [z_up_at]
    have cG : s' 157 (((p : Int) + 1) * 17 + X + 1) = e_I 1152921504606846976 (q_Tl g sa t ((g 179 sa).toNat - (p + 1)) (t - f - i - 1)) := by
      rw [r1 157 (by decide), e0 157 (by decide), ← h157 ((g 179 sa).toNat - (p + 1)) (t - f - i - 1) (by omega) (by omega)]
      congr 1; omega
    have cS : s' 157 ((p : Int) * 17 + X + 1) = e_I 1152921504606846976 (q_Tl g sa t ((g 179 sa).toNat - p) (t - f - i - 1)) := by
      rw [r1 157 (by decide), e0 157 (by decide), ← h157 ((g 179 sa).toNat - p) (t - f - i - 1) (by omega) (by omega)]
      congr 1; omega
    have b1 := q_Tl_bd hB hsa (t := t) (r := (g 179 sa).toNat - (p + 1)) (e := t - f - i - 1) (by omega)
    have b2 := q_Tl_bd hB hsa (t := t) (r := (g 179 sa).toNat - p) (e := t - f - i - 1) (by omega)
    have c1 := e_I_le (K := 1152921504606846976) b1 (by decide) (by decide)
    have c2 := e_I_le (K := 1152921504606846976) b2 (by decide) (by decide)
    have hle := q_le2_I (K := 1152921504606846976) b1 b2 (by decide)
    have hk1 : q_ks g sa t (t - f) (i + 1) = p + (if q_le2 (q_Tl g sa t ((g 179 sa).toNat - (p + 1)) (t - f - i - 1)) (q_Tl g sa t ((g 179 sa).toNat - p) (t - f - i - 1)) = true then 1 else 0) := by
      rw [← hp]; rfl
    have ek1 : z_up st (150 + 3) X p (59 + 3 * sa + 2) p = g 180 (4 * sa + p) * 4 + q_form g sa p := by rw [q_up_row (by omega)]; exact ek
    have ek2 : z_up (z_up st (150 + 3) X p) (150 + 4) X (g 180 (4 * sa + p)) (59 + 3 * sa + 2) p = g 180 (4 * sa + p) * 4 + q_form g sa p := by rw [q_up_row (by omega), q_up_row (by omega)]; exact ek
    have fin2 : ∀ z : Int, z = (if q_le2 (q_Tl g sa t ((g 179 sa).toNat - (p + 1)) (t - f - i - 1)) (q_Tl g sa t ((g 179 sa).toNat - p) (t - f - i - 1)) = true then 1 else 0) → (∃ i' : Nat, X + 1 = (f : Int) + i' ∧ f + i' ≤ t ∧ (p : Int) + z = (q_ks g sa t (t - f) i' : Nat) ∧ (∀ x, (x < 153 ∨ 155 < x) → s' x = st1 x) ∧ (∀ x j, (j < (f : Int) ∨ (t : Int) ≤ j) → s' x j = st1 x j) ∧ ∀ i'' : Nat, i'' < i' → ∀ c : Int, 3 ≤ c → c < 6 → s' (150 + c) ((f + i'' : Nat) : Int) = q_tw g place w ch f t i'' c) ∧ ((t : Int) - (X + 1)).toNat < ((t : Int) - X).toNat := by
      intro z hz
      refine ⟨⟨i + 1, by omega, by omega, ?_, fun x hx => (r1 x hx).trans (i4 x hx), fun x j hj => (r2 x j (by omega)).trans (i5 x j hj), fun i'' hi'' c c0 c6 => ?_⟩, by omega⟩
      · rw [hk1, hz]; split <;> omega
      · by_cases e : i'' = i
        · subst e
          have hX2 : ((f + i'' : Nat) : Int) = X := by omega
          rw [hX2]
          unfold q_tw
          rw [hsa9, hp]
          have hc : c = 3 ∨ c = 4 ∨ c = 5 := by omega
          rcases hc with rfl | rfl | rfl
          · rw [if_neg (by decide), if_neg (by decide), if_neg (by decide), if_pos rfl]; exact r3.1
          · rw [if_neg (by decide), if_neg (by decide), if_neg (by decide), if_neg (by decide), if_pos rfl]; exact r3.2.1
          · rw [if_neg (by decide), if_neg (by decide), if_neg (by decide), if_neg (by decide), if_neg (by decide)]; exact r3.2.2
        · rw [r2 _ _ (by omega)]
          exact i6 i'' (by omega) c c0 c6
    rw [hs', cG, cS]
    refine ⟨by omega, fun _ => ⟨by omega, by omega, by omega, by omega, by omega, by omega, by omega, by omega, by omega, by omega, by omega, by omega, fun h1 => fin2 0 (by rw [if_neg (fun h9 => by have := hle.mp h9; omega)]), fun h1 => fin2 1 (by rw [if_pos (hle.mpr (by omega))])⟩, fun h9 => by omega⟩
theorem s_X10_sayWord {g st0 : z_St} (hC : q_C g st0) (hB : q_RB g) (hT : q_TC g st0) {place w : Int} {f t : Nat} (hw : 0 ≤ w ∧ w < g 168 18) (hft : f < t ∧ t ≤ g 168 2) {x : Int} (hx : q_tab g w f t = some x) :
    q_ok (J_X10_sayWord place w f t st0) (fun st => (∀ x, (x < 150 ∨ 155 < x) → x ≠ 157 → st x = st0 x) ∧ (∀ x j, x ≠ 157 → (j < (f : Int) ∨ (t : Int) ≤ j) → st x j = st0 x j) ∧ q_ft6 st f t (q_tw g place w (q_chs g w f t) f t)) := by
  have hf1 := hB.1.1
  have hw0 := hB.2.2.2.2.1
  have hw1 := hw0.1
  have hw2 := hw0.2.1 w (by omega) (by omega)
  have hw3 := hw0.2.2.1 w (by omega) (by omega)
  have hp0 := (hw0.2.2.2.2.1 (2 * w) (by omega) (by omega)).2
  have hsa0 := q_said_of hw0 (w := w) (k := 0) (by omega)
  rw [show 2 * w + 0 = 2 * w by omega] at hsa0
  have hK0 := hT.2.1 w 0 (by omega) (by omega) (by omega) (by omega)
  rw [show 2 * w + 0 = 2 * w by omega] at hK0
  obtain ⟨hc1, u, hu, hux⟩ := q_chs_some hB (w := w) (f := (f : Int)) (t := (t : Int)) (by omega) hx
  have hcb := q_chs_bd (g := g) (w := w) (f := (f : Int)) (t := (t : Int))
  have hlen : ∀ sa, q_said g sa → 0 ≤ g 179 sa := fun sa h => by have := h.2.1; omega
  simp only [J_X10_sayWord, q_g, q_b, q_let, q_ite, q_some, z32, z64, true_or, or_true, true_and, and_true]
  refine q_eq (s_X4_sayingOf (by omega)) ?_
  rw [show 2 * w + 0 = 2 * w by omega]
  refine ⟨by unfold z_isSaying; omega, ?_⟩
  refine q_mono (s_X10_fillTails hC hB hT hsa0 hK0 hft) ?_
  rintro st1 ⟨a1, a2⟩
  have hC1 : q_C g st1 := q_C_D hC (fun x p q r => a1 x (by omega))
  have hT1 : q_TC g st1 := q_TC_of hT hB (fun x p q => by unfold q_isT at p; exact a1 x (by omega))
  have hs0 := hsa0.2.1
  have htl0 := q_take_Tl (g := g) (sa := 2 * w) (f := (f : Int)) (t := (t : Int)) (by omega)
  rw [show ((t : Int) - f).toNat = t - f by omega] at htl0
  have e157 := a2 (g 179 (2 * w)).toNat (t - f) (by omega) (by omega)
  rw [← htl0, show (g 179 (2 * w) - ((g 179 (2 * w)).toNat : Int)) * 17 + (t - ((t - f : Nat) : Int)) = f by omega] at e157
  have e27 := hC1.2.2.2.2.1.2.1 w (by omega) (by omega)
  have efee := (hC1.2.2.2.2.1.2.2 (2 * w) (by omega) (by omega)).2.1
  have etab := hT1.2.2.1 w f t (by omega) (by omega) (by omega) (by omega) (by omega)
  rw [hx, e_I_some] at etab
  have b0 := q_take_bd hB.1 hB.2.1 hB.2.2.1 hsa0 (f := (f : Int)) (t := (t : Int)) (by omega)
  have c0 := e_I_le (K := 1152921504606846976) b0 (by decide) (by decide)
  have hxb := q_tab_bd hB (w := w) (f := (f : Int)) (t := (t : Int)) (by omega) x hx
  -- the first SAYING
  have first : q_chs g w f t = 0 → q_ok (J_X10_sayWord_84 place w f t 0 (59 + 3 * (2 * w)) st1) (fun st => (∀ x, (x < 150 ∨ 155 < x) → x ≠ 157 → st x = st0 x) ∧ (∀ x j, x ≠ 157 → (j < (f : Int) ∨ (t : Int) ≤ j) → st x j = st0 x j) ∧ q_ft6 st f t (q_tw g place w (q_chs g w f t) f t)) := fun h0 => by
    rw [h0] at hu ⊢
    have h84 := s_sayWord_84 hC1 hB (place := place) (w := w) (ch := 0) hw (by omega) (f := f) (t := t) (by rw [show 2 * w + 0 = 2 * w by omega]; exact q_kind_of hK0 (a1 _ (by omega))) hft (by rw [show 2 * w + 0 = 2 * w by omega]; exact a2) (u := u) (by
      rw [show 2 * w + 0 = 2 * w by omega] at hu ⊢
      rw [← htl0]; exact hu)
    rw [show 2 * w + 0 = 2 * w by omega] at h84
    refine q_mono h84 ?_
    rintro st2 ⟨d1, d2, d3⟩
    exact ⟨fun x p q => (d1 x p).trans (a1 x q), fun x j p q => (d2 x j q).trans (by rw [a1 x p]), d3⟩
  rw [e27]
  refine ⟨by omega, by omega, fun h2 => ?_, fun h2 => first (by unfold q_chs; rw [if_neg (by omega)])⟩
  have h2' : g 178 w = 2 := by omega
  rw [efee, e157]
  refine ⟨by omega, by omega, ?_⟩
  refine q_eq (s_X0_span (by omega)) ?_
  rw [etab]
  have hsa1 := q_said_of hw0 (w := w) (k := 1) (by omega)
  have hp1 := (hw0.2.2.2.2.1 (2 * w + 1) (by omega) (by omega)).2
  have b1 := q_take_bd hB.1 hB.2.1 hB.2.2.1 hsa1 (f := (f : Int)) (t := (t : Int)) (by omega)
  have hdec : x < g 181 (2 * w) + e_I 1152921504606846976 (q_take g (2 * w) f t) ↔ q_chs g w f t = 1 := by
    have hdef : q_chs g w f t = if g 178 w = 2 ∧ e_I 1000000000000000000 (q_take g (2 * w + 1) f t) + g 181 (2 * w + 1) < e_I 1000000000000000000 (q_take g (2 * w) f t) + g 181 (2 * w) then 1 else 0 := rfl
    by_cases hcc : g 178 w = 2 ∧ e_I 1000000000000000000 (q_take g (2 * w + 1) f t) + g 181 (2 * w + 1) < e_I 1000000000000000000 (q_take g (2 * w) f t) + g 181 (2 * w)
    · rw [if_pos hcc] at hdef
      rw [hdef] at hu hux
      refine ⟨fun _ => hdef, fun _ => ?_⟩
      have hl := hcc.2
      rw [hu, e_I_some] at hl
      cases ht0 : q_take g (2 * w) f t with
      | none => rw [e_I_none]; omega
      | some u0 => rw [ht0, e_I_some] at hl; rw [e_I_some]; omega
    · rw [if_neg hcc] at hdef
      rw [hdef, show 2 * w + 0 = 2 * w by omega] at hu hux
      refine ⟨fun h9 => ?_, fun h9 => by omega⟩
      rw [hu, e_I_some] at h9; omega
  refine ⟨by omega, fun hlt => ?_, fun hge => first (by have : ¬ q_chs g w f t = 1 := fun h9 => hge (hdec.mpr h9); omega)⟩
  have h1 := hdec.mp hlt
  rw [h1] at hu ⊢
  have hK1 := hT1.2.1 w 1 (by omega) (by omega) (by omega) (by omega)
  refine q_eq (s_X4_sayingOf (by omega)) ?_
  refine ⟨by unfold z_isSaying; omega, ?_⟩
  refine q_mono (s_X10_fillTails hC1 hB hT1 hsa1 hK1 hft) ?_
  rintro st2 ⟨d1, d2⟩
  have hs1 := hsa1.2.1
  have htl1 := q_take_Tl (g := g) (sa := 2 * w + 1) (f := (f : Int)) (t := (t : Int)) (by omega)
  rw [show ((t : Int) - f).toNat = t - f by omega] at htl1
  refine q_mono (s_sayWord_84 (q_C_D hC1 (fun x p q r => d1 x (by omega))) hB (place := place) (w := w) (ch := 1) hw (by omega) (f := f) (t := t) (q_kind_of hK1 (d1 _ (by omega))) hft d2 (u := u) (by rw [← htl1]; exact hu)) ?_
  rintro st3 ⟨f1, f2, f3⟩
  exact ⟨fun x p q => by rw [f1 x p, d1 x q]; exact a1 x q, fun x j p q => by rw [f2 x j q, d1 x p, a1 x p], f3⟩
