-- THE REFERENCE'S laysSounds, laysPath
def q_tw (g : z_St) (place w ch : Int) (f t i : Nat) (c : Int) : Int :=
  if c = 0 then place else if c = 1 then w else if c = 2 then ch else if c = 3 then ((q_ks g (2 * w + ch) t (t - f) i : Nat) : Int) else if c = 4 then g 180 (4 * (2 * w + ch) + (q_ks g (2 * w + ch) t (t - f) i : Nat)) else q_form g (2 * w + ch) (q_ks g (2 * w + ch) t (t - f) i : Nat)
theorem q_tv_tw {g : z_St} {d : Int → Int} {m k i : Nat} {c : Int} : q_tv g d m k i c = q_tw g k (d k) (q_chs g (d k) (q_Tk g d m k) (q_Tk g d m (k + 1))) (q_Tk g d m k) (q_Tk g d m (k + 1)) i c := rfl
theorem s_X12_laysSounds {g st0 : z_St} (hS : q_same g st0) (hB : q_RB g) {place w ch : Int} {f t : Nat} (hw : 0 ≤ 2 * w + ch ∧ 2 * w + ch < 10) (hsa : q_said g (2 * w + ch)) (hft : f < t ∧ t ≤ g 168 2) {u : Int} (hu : q_Tl g (2 * w + ch) t (g 179 (2 * w + ch)).toNat (t - f) = some u) :
    q_ok (J_X12_laysSounds place w ch f t st0) (fun st => (∀ x, x ≠ 185 → x ≠ 191 → st x = st0 x) ∧ (∀ j, (j < 6 * (f : Int) ∨ 6 * (t : Int) ≤ j) → st 191 j = st0 191 j) ∧ ∀ i : Nat, f + i < t → ∀ c : Int, 0 ≤ c → c < 6 → st 191 (6 * ((f + i : Nat) : Int) + c) = q_tw g place w ch f t i c) := by
  have hf1 := hB.1.1
  have hs1 := hsa.1
  have hs2 := hsa.2.1
  obtain ⟨sa, hsa9⟩ : ∃ sa, 2 * w + ch = sa := ⟨_, rfl⟩
  rw [hsa9] at hw hsa hu hs1 hs2
  simp only [J_X12_laysSounds, q_g, q_b, q_let, q_ite, q_some, z32, z64, true_or, or_true, true_and, and_true]
  rw [hsa9, hS.1 179 (by decide) (by decide)]
  refine ⟨hw, ?_⟩
  refine q_mono (P := fun st => (∀ x, x ≠ 185 → st x = st0 x) ∧ ∀ r e : Nat, r ≤ g 179 sa → e ≤ t - f → st 185 (17 * (g 179 sa - r) + (t - e)) = e_I 1000000000000000000 (q_Tl g sa t r e)) ?_ ?_
  · refine q_ford (fun r st => (∀ x, x ≠ 185 → st x = st0 x) ∧ ∀ r' e : Nat, r' < r → e ≤ t - f → st 185 (17 * (g 179 sa - r') + (t - e)) = e_I 1000000000000000000 (q_Tl g sa t r' e)) (g 179 sa) ((g 179 sa).toNat + 1) (by omega) ⟨fun _ _ => rfl, fun r' e a => by omega⟩ ?_ ?_
    · rintro r st hr ⟨i1, i2⟩
      simp only [J_X12_laysSounds_b20, q_g, q_b, q_let, q_ite, q_some, z32, z64, true_or, or_true, true_and, and_true]
      refine ⟨by omega, fun h9 => by omega, fun _ => ?_⟩
      refine q_mono (P := fun st1 => (∀ x, x ≠ 185 → st1 x = st0 x) ∧ ∀ r' e : Nat, r' < r + 1 → e ≤ t - f → st1 185 (17 * (g 179 sa - r') + (t - e)) = e_I 1000000000000000000 (q_Tl g sa t r' e)) ?_ (fun st1 h1 => ⟨_, rfl, h1⟩)
      refine q_ford (fun e st => (∀ x, x ≠ 185 → st x = st0 x) ∧ ∀ r' e' : Nat, (r' < r ∨ (r' = r ∧ e' < e)) → e' ≤ t - f → st 185 (17 * (g 179 sa - r') + (t - e')) = e_I 1000000000000000000 (q_Tl g sa t r' e')) (t : Int) (t - f + 1) (by omega) ⟨i1, fun r' e' a b => i2 r' e' (by omega) b⟩ ?_ ?_
      · rintro e st he ⟨k1, k2⟩
        have hS1 : q_same g st := q_same_of hS (fun x a b => k1 x (by omega))
        refine q_eq (s_sounds_29 hS1 hB (sa := sa) (f := f) (t := t) (r := r) (e := e) hsa (by omega) (by omega) (by omega) (fun r' e' a b c c2 => k2 r' e' (by omega) (by omega))) ⟨_, rfl, fun x hx => (q_up_row hx).trans (k1 x hx), fun r' e' a b => ?_⟩
        rw [q_up_at]
        by_cases e9 : r' = r ∧ e' = e
        · obtain ⟨rfl, rfl⟩ := e9
          rw [if_pos rfl]
        · rw [if_neg (by omega)]
          exact k2 r' e' (by omega) b
      · rintro st ⟨k1, k2⟩
        simp only [J_X12_laysSounds_b29, q_g, q_b, q_let, q_ite, q_some, z32, z64, true_or, or_true, true_and, and_true]
        exact ⟨by omega, fun _ => ⟨_, rfl, k1, fun r' e' a b => k2 r' e' (by omega) b⟩, fun h9 => by omega⟩
    · rintro st ⟨i1, i2⟩
      simp only [J_X12_laysSounds_b20, q_g, q_b, q_let, q_ite, q_some, z32, z64, true_or, or_true, true_and, and_true]
      exact ⟨by omega, fun _ => ⟨_, rfl, i1, fun r e a b => i2 r e (by omega) b⟩, fun h9 => by omega⟩
  · rintro st1 ⟨a1, a2⟩
    refine q_loop (fun q => ∃ i : Nat, q.2.1 = (f : Int) + i ∧ f + i ≤ t ∧ q.1 = (q_ks g sa t (t - f) i : Nat) ∧ (∀ x, x ≠ 191 → q.2.2 x = st1 x) ∧ (∀ j, (j < 6 * (f : Int) ∨ 6 * (t : Int) ≤ j) → q.2.2 191 j = st1 191 j) ∧ ∀ i' : Nat, i' < i → ∀ c : Int, 0 ≤ c → c < 6 → q.2.2 191 (6 * ((f + i' : Nat) : Int) + c) = q_tw g place w ch f t i' c) (fun q => (t - q.2.1).toNat) ⟨0, by show (f : Int) = _; omega, by omega, rfl, fun _ _ => rfl, fun _ _ => rfl, fun i' h => by omega⟩ (by show ((t : Int) - f).toNat < _; omega) ?_
    rintro ⟨v8, v9, st⟩ ⟨i, i1, i2, i3, i4, i5, i6⟩
    dsimp only at i1 i3 i4 i5 i6
    subst i1 i3
    have hks := q_ks_spec hu i (by omega)
    obtain ⟨p, hp⟩ : ∃ p, q_ks g sa t (t - f) i = p := ⟨_, rfl⟩
    rw [hp] at hks ⊢
    have hS1 : q_same g st := q_same_of hS (fun x a b => (i4 x (by omega)).trans (a1 x (by omega)))
    simp only [J_X12_laysSounds_b191, J_X12_laysSounds_336, q_g, q_b, q_let, q_ite, q_some, z32, z64, true_or, or_true, true_and, and_true]
    refine ⟨by omega, fun hlt => ?_, fun hge => ?_⟩
    · have hpl := hks.2.2 (by omega)
      refine ⟨by omega, by omega, by omega, by omega, by omega, by omega, ?_⟩
      refine q_eq (s_X12_formOf (g := g) (sa := sa) (p := (p : Int)) (q_same_up (q_same_up (q_same_up (q_same_up (q_same_up hS1 (by omega)) (by omega)) (by omega)) (by omega)) (by omega)) hB.2.2.1 hB.2.2.2.2.1 (by omega)) ?_
      refine ⟨by omega, by omega, by omega, ?_⟩
      obtain ⟨X, hX⟩ : ∃ X : Int, (f : Int) + i = X := ⟨_, rfl⟩
      rw [hX]
      obtain ⟨s', hs'⟩ : ∃ s', (z_up (z_up (z_up (z_up (z_up (z_up st 191 (6 * X) place) 191 (6 * X + 1) w) 191 (6 * X + 2) ch) 191 (6 * X + 3) p) 191 (6 * X + 4) (z_up (z_up (z_up (z_up st 191 (6 * X) place) 191 (6 * X + 1) w) 191 (6 * X + 2) ch) 191 (6 * X + 3) p 180 (4 * sa + p))) 191 (6 * X + 5) (q_form g sa p)) = s' := ⟨_, rfl⟩
      have r1 : ∀ x, x ≠ 191 → s' x = st x := fun x hx => by
        rw [← hs', q_up_row hx, q_up_row hx, q_up_row hx, q_up_row hx, q_up_row hx, q_up_row hx]
      have h180 : z_up (z_up (z_up (z_up st 191 (6 * X) place) 191 (6 * X + 1) w) 191 (6 * X + 2) ch) 191 (6 * X + 3) p 180 (4 * sa + p) = g 180 (4 * sa + p) := by
        rw [q_up_row (by decide), q_up_row (by decide), q_up_row (by decide), q_up_row (by decide), hS1.1 180 (by decide) (by decide)]
      have r2 : ∀ j, s' 191 j = if j = 6 * X + 5 then q_form g sa p else if j = 6 * X + 4 then g 180 (4 * sa + p) else if j = 6 * X + 3 then (p : Int) else if j = 6 * X + 2 then ch else if j = 6 * X + 1 then w else if j = 6 * X then place else st 191 j := fun j => by
        rw [← hs', q_up_at, q_up_at, q_up_at, q_up_at, q_up_at, q_up_at, h180]
      have cG : s' 185 (17 * ((p : Int) + 1) + X + 1) = e_I 1000000000000000000 (q_Tl g sa t ((g 179 sa).toNat - (p + 1)) (t - f - i - 1)) := by
        rw [r1 185 (by decide), i4 185 (by decide), ← a2 ((g 179 sa).toNat - (p + 1)) (t - f - i - 1) (by omega) (by omega)]
        congr 1; omega
      have cS : s' 185 (17 * (p : Int) + X + 1) = e_I 1000000000000000000 (q_Tl g sa t ((g 179 sa).toNat - p) (t - f - i - 1)) := by
        rw [r1 185 (by decide), i4 185 (by decide), ← a2 ((g 179 sa).toNat - p) (t - f - i - 1) (by omega) (by omega)]
        congr 1; omega
      have b1 := q_Tl_bd hB hsa (t := t) (r := (g 179 sa).toNat - (p + 1)) (e := t - f - i - 1) (by omega)
      have b2 := q_Tl_bd hB hsa (t := t) (r := (g 179 sa).toNat - p) (e := t - f - i - 1) (by omega)
      have c1 := e_I_le (K := 1000000000000000000) b1 (by decide) (by decide)
      have c2 := e_I_le (K := 1000000000000000000) b2 (by decide) (by decide)
      have hle := q_le2_I (K := 1000000000000000000) b1 b2 (by decide)
      have hk1 : q_ks g sa t (t - f) (i + 1) = p + (if q_le2 (q_Tl g sa t ((g 179 sa).toNat - (p + 1)) (t - f - i - 1)) (q_Tl g sa t ((g 179 sa).toNat - p) (t - f - i - 1)) = true then 1 else 0) := by
        rw [← hp]; rfl
      rw [hs', cG, cS]
      have fin : ∀ z : Int, z = (if q_le2 (q_Tl g sa t ((g 179 sa).toNat - (p + 1)) (t - f - i - 1)) (q_Tl g sa t ((g 179 sa).toNat - p) (t - f - i - 1)) = true then 1 else 0) → (∃ i' : Nat, X + 1 = (f : Int) + i' ∧ f + i' ≤ t ∧ (p : Int) + z = (q_ks g sa t (t - f) i' : Nat) ∧ (∀ x, x ≠ 191 → s' x = st1 x) ∧ (∀ j, (j < 6 * (f : Int) ∨ 6 * (t : Int) ≤ j) → s' 191 j = st1 191 j) ∧ ∀ i'' : Nat, i'' < i' → ∀ c : Int, 0 ≤ c → c < 6 → s' 191 (6 * ((f + i'' : Nat) : Int) + c) = q_tw g place w ch f t i'' c) ∧ ((t : Int) - (X + 1)).toNat < ((t : Int) - X).toNat := by
        intro z hz
        refine ⟨⟨i + 1, by omega, by omega, ?_, fun x hx => (r1 x hx).trans (i4 x hx), fun j hj => ?_, fun i'' hi'' c c0 c6 => ?_⟩, by omega⟩
        · rw [hk1, hz]; split <;> omega
        · rw [r2, if_neg (by omega), if_neg (by omega), if_neg (by omega), if_neg (by omega), if_neg (by omega), if_neg (by omega)]; exact i5 j hj
        · by_cases e : i'' = i
          · subst e
            have hX2 : ((f + i'' : Nat) : Int) = X := by omega
            rw [hX2, r2]
            unfold q_tw
            rw [hsa9, hp]
            have hc : c = 0 ∨ c = 1 ∨ c = 2 ∨ c = 3 ∨ c = 4 ∨ c = 5 := by omega
            rcases hc with rfl | rfl | rfl | rfl | rfl | rfl
            · rw [if_neg (by omega), if_neg (by omega), if_neg (by omega), if_neg (by omega), if_neg (by omega), if_pos (by omega), if_pos rfl]
            · rw [if_neg (by omega), if_neg (by omega), if_neg (by omega), if_neg (by omega), if_pos rfl, if_neg (by decide), if_pos rfl]
            · rw [if_neg (by omega), if_neg (by omega), if_neg (by omega), if_pos rfl, if_neg (by decide), if_neg (by decide), if_pos rfl]
            · rw [if_neg (by omega), if_neg (by omega), if_pos rfl, if_neg (by decide), if_neg (by decide), if_neg (by decide), if_pos rfl]
            · rw [if_neg (by omega), if_pos rfl, if_neg (by decide), if_neg (by decide), if_neg (by decide), if_neg (by decide), if_pos rfl]
            · rw [if_pos rfl, if_neg (by decide), if_neg (by decide), if_neg (by decide), if_neg (by decide), if_neg (by decide)]
          · rw [r2, if_neg (by omega), if_neg (by omega), if_neg (by omega), if_neg (by omega), if_neg (by omega), if_neg (by omega)]
            exact i6 i'' (by omega) c c0 c6
      refine ⟨by omega, fun h1 => fin 0 (by rw [if_neg (fun h9 => by have := hle.mp h9; omega)]), fun h1 => fin 1 (by rw [if_pos (hle.mpr (by omega))])⟩
    · have hi : f + i = t := by omega
      refine ⟨fun x x1 x2 => (i4 x x2).trans (a1 x x1), fun j hj => (i5 j hj).trans (by rw [a1 191 (by decide)]), fun i' hi' c c0 c6 => i6 i' (by omega) c c0 c6⟩
