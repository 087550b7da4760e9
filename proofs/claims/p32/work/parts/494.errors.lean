-- ERRORS
def q_edr (d e : Int → Int) (i : Nat) (p : Nat → Int) : Nat → Int
  | 0 => (i : Int) + 1
  | j + 1 => min (1 + min (p (j + 1)) (q_edr d e i p j)) (p j + if d i = e j then 0 else 1)
/-- the fewest changes of the first i of d into the first j of e -/
def q_ed (d e : Int → Int) : Nat → Nat → Int
  | 0 => fun j => j
  | i + 1 => q_edr d e i (q_ed d e i)
theorem q_ed_ss {d e : Int → Int} {i j : Nat} : q_ed d e (i + 1) (j + 1) = min (1 + min (q_ed d e i (j + 1)) (q_ed d e (i + 1) j)) (q_ed d e i j + if d i = e j then 0 else 1) := rfl
theorem q_ed_s0 {d e : Int → Int} {i : Nat} : q_ed d e (i + 1) 0 = (i : Int) + 1 := rfl
theorem q_ed_0 {d e : Int → Int} {j : Nat} : q_ed d e 0 j = j := rfl
theorem q_ed_bd {d e : Int → Int} : ∀ i j : Nat, 0 ≤ q_ed d e i j ∧ q_ed d e i j ≤ i + j := by
  intro i
  induction i with
  | zero => intro j; rw [q_ed_0]; omega
  | succ i ih =>
    intro j
    induction j with
    | zero => rw [q_ed_s0]; omega
    | succ j ihj =>
      have h1 := ih j
      have h2 := ih (j + 1)
      rw [q_ed_ss]
      have h3 : (0 : Int) ≤ if d i = e j then 0 else 1 := by split <;> decide
      have h4 : (if d i = e j then 0 else 1 : Int) ≤ 1 := by split <;> decide
      omega
def q_edOK (d e : Int → Int) (m l : Nat) (D : Nat → Nat → Prop) (st : z_St) : Prop := ∀ i j : Nat, i ≤ m → j ≤ l → D i j → st 198 (5 * (i : Int) + j) = q_ed d e i j
theorem s_X12_ed {st0 : z_St} {d e : Int → Int} {m l : Nat} (hm : m ≤ 4) (hl : l ≤ 4) (h6 : ∀ k : Int, 0 ≤ k → k < m → st0 186 k = d k ∧ z32 (d k)) (h7 : ∀ k : Int, 0 ≤ k → k < l → st0 187 k = e k ∧ z32 (e k)) : q_ok (z_iter z_F (fun q9 : (Int × z_St) => J_X12_errors_b64 (l : Int) (m : Int) q9.1 q9.2) (0, st0)) (fun st => (∀ x, x ≠ 198 → st x = st0 x) ∧ st 198 (5 * (m : Int) + l) = q_ed d e m l) := by
  refine q_mono (P := fun st => (∀ x, x ≠ 198 → st x = st0 x) ∧ q_edOK d e m l (fun _ _ => True) st) ?_ (fun st h => ⟨h.1, h.2 m l (Nat.le_refl _) (Nat.le_refl _) trivial⟩)
  refine q_for0 (fun i st => (∀ x, x ≠ 198 → st x = st0 x) ∧ q_edOK d e m l (fun i' _ => i' < i) st) (m + 1) (by omega) ⟨fun _ _ => rfl, fun i j _ _ h => by omega⟩ ?_ ?_
  · rintro i st hi ⟨i1, i2⟩
    simp only [J_X12_errors_b64, q_g, q_b, q_let, q_ite, q_some, z32, z64, true_or, or_true, true_and, and_true]
    refine ⟨by omega, fun h9 => by omega, fun _ => ?_⟩
    refine q_mono (P := fun st => (∀ x, x ≠ 198 → st x = st0 x) ∧ q_edOK d e m l (fun i' _ => i' < i + 1) st) ?_ (fun st h => ⟨_, rfl, h⟩)
    refine q_for0 (fun j st => (∀ x, x ≠ 198 → st x = st0 x) ∧ q_edOK d e m l (fun i' j' => i' < i ∨ (i' = i ∧ j' < j)) st) (l + 1) (by omega) ⟨i1, fun i' j' p q r => i2 i' j' p q (by omega)⟩ ?_ ?_
    · rintro j st hj ⟨i1, i2⟩
      have w237 : ∀ v : Int, v = q_ed d e i j → q_ok (J_X12_errors_237 (l : Int) (m : Int) i j v st) (fun r => ∃ s', r = .inl ((j : Int) + 1, s') ∧ (∀ x, x ≠ 198 → s' x = st0 x) ∧ q_edOK d e m l (fun i' j' => i' < i ∨ (i' = i ∧ j' < j + 1)) s') := fun v hv => by
        simp only [J_X12_errors_237, q_g, q_b, q_let, q_ite, q_some, z32, z64, true_or, or_true, true_and, and_true]
        refine ⟨by omega, _, rfl, fun x hx => (q_up_row hx).trans (i1 x hx), fun i' j' p q r => ?_⟩
        rw [q_up_at]
        by_cases e9 : i' = i ∧ j' = j
        · obtain ⟨rfl, rfl⟩ := e9
          rw [if_pos rfl]; exact hv
        · rw [if_neg (by omega)]
          exact i2 i' j' p q (by omega)
      simp only [J_X12_errors_b74, J_X12_errors_92, q_g, q_b, q_let, q_ite, q_some, z32, z64, true_or, or_true, true_and, and_true]
      refine ⟨by omega, fun h9 => by omega, fun _ => ⟨by omega, fun h0 => ⟨by omega, fun h9 => by omega, fun _ => w237 _ ?_⟩, fun h0 => ⟨by omega, fun _ => ⟨by omega, fun hj0 => ?_, fun hj0 => w237 _ ?_⟩, fun h9 => by omega⟩⟩⟩
      · have : i = 0 := by omega
        subst this; rw [q_ed_0]
      · obtain ⟨i', rfl⟩ : ∃ i', i = i' + 1 := ⟨i - 1, by omega⟩
        obtain ⟨j', rfl⟩ : ∃ j', j = j' + 1 := ⟨j - 1, by omega⟩
        have v1 := i2 i' j' (by omega) (by omega) (Or.inl (by omega))
        have v2 := i2 i' (j' + 1) (by omega) (by omega) (Or.inl (by omega))
        have v3 := i2 (i' + 1) j' (by omega) (by omega) (Or.inr ⟨rfl, by omega⟩)
        have b1 := q_ed_bd (d := d) (e := e) i' j'
        have b2 := q_ed_bd (d := d) (e := e) i' (j' + 1)
        have b3 := q_ed_bd (d := d) (e := e) (i' + 1) j'
        obtain ⟨c6, z6⟩ := h6 i' (by omega) (by omega)
        obtain ⟨c7, z7⟩ := h7 j' (by omega) (by omega)
        have hif : (if d i' = e j' then (0 : Int) else 1) = 0 ∨ (if d i' = e j' then (0 : Int) else 1) = 1 := by split <;> simp
        have w146 : ∀ s0 : Int, s0 = (if d i' = e j' then 0 else 1) → q_ok (J_X12_errors_146 (l : Int) (m : Int) ((i' + 1 : Nat) : Int) ((j' + 1 : Nat) : Int) s0 (q_ed d e i' j') st) (fun r => ∃ s', r = .inl (((j' + 1 : Nat) : Int) + 1, s') ∧ (∀ x, x ≠ 198 → s' x = st0 x) ∧ q_edOK d e m l (fun i'' j'' => i'' < i' + 1 ∨ (i'' = i' + 1 ∧ j'' < j' + 1 + 1)) s') := fun s0 hs0 => by
          rw [← hs0] at hif
          have e4 : q_ed d e (i' + 1) (j' + 1) = min (1 + min (q_ed d e i' (j' + 1)) (q_ed d e (i' + 1) j')) (q_ed d e i' j' + s0) := by rw [q_ed_ss, hs0]
          simp only [J_X12_errors_146, J_X12_errors_191, J_X12_errors_235, q_g, q_b, q_let, q_ite, q_some, z32, z64, true_or, or_true, true_and, and_true]
          rw [show (5 * (((i' + 1 : Nat) : Int) - 1)) + ((j' + 1 : Nat) : Int) = 5 * (i' : Int) + ((j' + 1 : Nat) : Int) by omega, v2, show ((5 * ((i' + 1 : Nat) : Int)) + ((j' + 1 : Nat) : Int)) - 1 = 5 * ((i' + 1 : Nat) : Int) + (j' : Int) by omega, v3]
          refine ⟨by omega, by omega, fun k1 => ⟨by omega, by omega, by omega, fun k2 => ⟨by omega, w237 _ (by omega)⟩, fun k2 => w237 _ (by omega)⟩, fun k1 => ⟨by omega, by omega, fun k2 => ⟨by omega, w237 _ (by omega)⟩, fun k2 => w237 _ (by omega)⟩⟩
        rw [show ((5 * (((i' + 1 : Nat) : Int) - 1)) + ((j' + 1 : Nat) : Int)) - 1 = 5 * (i' : Int) + (j' : Int) by omega, v1, show ((i' + 1 : Nat) : Int) - 1 = i' by omega, show ((j' + 1 : Nat) : Int) - 1 = j' by omega, i1 186 (by decide), i1 187 (by decide), c6, c7]
        exact ⟨by omega, by omega, by omega, ⟨z6, z7⟩, fun k => w146 0 (by rw [if_pos k]), fun k => w146 1 (by rw [if_neg k])⟩
      · obtain ⟨i', rfl⟩ : ∃ i', i = i' + 1 := ⟨i - 1, by omega⟩
        have : j = 0 := by omega
        subst this; rw [q_ed_s0]; omega
    · rintro st ⟨i1, i2⟩
      simp only [J_X12_errors_b74, q_g, q_b, q_let, q_ite, q_some, z32, z64, true_or, or_true, true_and, and_true]
      exact ⟨by omega, fun _ => ⟨_, rfl, i1, fun i' j' p q r => i2 i' j' p q (by omega)⟩, fun h9 => by omega⟩
  · rintro st ⟨i1, i2⟩
    simp only [J_X12_errors_b64, q_g, q_b, q_let, q_ite, q_some, z32, z64, true_or, or_true, true_and, and_true]
    exact ⟨by omega, fun _ => ⟨_, rfl, i1, fun i' j' p q _ => i2 i' j' p q (by omega)⟩, fun h9 => by omega⟩
def q_edC (d e : Int → Int) (m l : Nat) (D : Nat → Nat → Prop) (st : z_St) : Prop := ∀ i j : Nat, i ≤ m → j ≤ l → D i j → st (163 + (i : Int)) j = q_ed d e i j
theorem s_X11_ed {st0 : z_St} {nb n : Int} {m l : Nat} (hb : q_rd 160 nb st0) (hn : q_rd 158 n st0) (hm : q_many nb = m) (hl : q_many n = l) (h6 : ∀ k : Int, 0 ≤ k → k < m → z32 (q_dig nb k)) (h7 : ∀ k : Int, 0 ≤ k → k < l → z32 (q_dig n k)) : q_ok (J_X11_fewestChanges 160 158 st0) (fun r => (∀ x, (x < 163 ∨ 167 < x) → r.2 x = st0 x) ∧ r.1 = q_ed (q_dig nb) (q_dig n) m l) := by
  have hmb := q_many_bd nb
  have hlb := q_many_bd n
  simp only [J_X11_fewestChanges, q_g, q_b, q_let, q_ite, q_some, z32, z64, true_or, or_true, true_and, and_true]
  refine q_mono (P := fun st => (∀ x, (x < 163 ∨ 167 < x) → st x = st0 x) ∧ q_edC (q_dig nb) (q_dig n) m l (fun _ _ => True) st) ?_ (fun st h => ⟨by rw [h.1 160 (by decide), hb.1]; omega, by rw [h.1 158 (by decide), hn.1]; omega, h.1, by rw [h.1 160 (by decide), h.1 158 (by decide), hb.1, hn.1, hm, hl]; exact h.2 m l (Nat.le_refl _) (Nat.le_refl _) trivial⟩)
  refine q_for0 (fun i st => (∀ x, (x < 163 ∨ 167 < x) → st x = st0 x) ∧ q_edC (q_dig nb) (q_dig n) m l (fun i' _ => i' < i) st) (m + 1) (by omega) ⟨fun _ _ => rfl, fun i j _ _ h => by omega⟩ ?_ ?_
  · rintro i st hi ⟨i1, i2⟩
    simp only [J_X11_fewestChanges_b2, q_g, q_b, q_let, q_ite, q_some, z32, z64, true_or, or_true, true_and, and_true]
    rw [i1 160 (by decide), hb.1]
    refine ⟨by omega, fun h9 => by omega, fun _ => ?_⟩
    refine q_mono (P := fun st => (∀ x, (x < 163 ∨ 167 < x) → st x = st0 x) ∧ q_edC (q_dig nb) (q_dig n) m l (fun i' _ => i' < i + 1) st) ?_ (fun st h => ⟨_, rfl, h⟩)
    refine q_for0 (fun j st => (∀ x, (x < 163 ∨ 167 < x) → st x = st0 x) ∧ q_edC (q_dig nb) (q_dig n) m l (fun i' j' => i' < i ∨ (i' = i ∧ j' < j)) st) (l + 1) (by omega) ⟨i1, fun i' j' p q r => i2 i' j' p q (by omega)⟩ ?_ ?_
    · rintro j st hj ⟨i1, i2⟩
      have w55 : ∀ v c r : Int, c = j → r = 163 + (i : Int) → v = q_ed (q_dig nb) (q_dig n) i j → q_ok (J_X11_fewestChanges_55 160 158 i j v c r st) (fun r => ∃ s', r = .inl ((j : Int) + 1, s') ∧ (∀ x, (x < 163 ∨ 167 < x) → s' x = st0 x) ∧ q_edC (q_dig nb) (q_dig n) m l (fun i' j' => i' < i ∨ (i' = i ∧ j' < j + 1)) s') := fun v c r hc hr hv => by
        subst hc hr
        simp only [J_X11_fewestChanges_55, q_g, q_b, q_let, q_ite, q_some, z32, z64, true_or, or_true, true_and, and_true]
        refine ⟨by omega, _, rfl, fun x hx => (q_up_row (by omega)).trans (i1 x hx), fun i' j' p q r => ?_⟩
        by_cases e8 : i' = i
        · subst e8
          rw [q_up_at]
          by_cases e9 : j' = j
          · subst e9
            rw [if_pos rfl]; exact hv
          · rw [if_neg (by omega)]
            exact i2 i' j' p q (by omega)
        · rw [q_up_row (by omega)]
          exact i2 i' j' p q (by omega)
      simp only [J_X11_fewestChanges_b13, J_X11_fewestChanges_39, q_g, q_b, q_let, q_ite, q_some, z32, z64, true_or, or_true, true_and, and_true]
      rw [i1 158 (by decide), hn.1]
      refine ⟨by omega, fun h9 => by omega, fun _ => ⟨by omega, by omega, fun h0 => w55 _ _ _ rfl rfl ?_, fun h0 => ⟨by omega, fun hj0 => w55 _ _ _ rfl rfl ?_, fun hj0 => ?_⟩⟩⟩
      · have : i = 0 := by omega
        subst this; rw [q_ed_0]; omega
      · obtain ⟨i', rfl⟩ : ∃ i', i = i' + 1 := ⟨i - 1, by omega⟩
        have : j = 0 := by omega
        subst this; rw [q_ed_s0]; omega
      · obtain ⟨i', rfl⟩ : ∃ i', i = i' + 1 := ⟨i - 1, by omega⟩
        obtain ⟨j', rfl⟩ : ∃ j', j = j' + 1 := ⟨j - 1, by omega⟩
        have v1 := i2 i' j' (by omega) (by omega) (Or.inl (by omega))
        have v2 := i2 i' (j' + 1) (by omega) (by omega) (Or.inl (by omega))
        have v3 := i2 (i' + 1) j' (by omega) (by omega) (Or.inr ⟨rfl, by omega⟩)
        have b1 := q_ed_bd (d := q_dig nb) (e := q_dig n) i' j'
        have b2 := q_ed_bd (d := q_dig nb) (e := q_dig n) i' (j' + 1)
        have b3 := q_ed_bd (d := q_dig nb) (e := q_dig n) (i' + 1) j'
        have z6 := h6 i' (by omega) (by omega)
        have z7 := h7 j' (by omega) (by omega)
        have hb9 : q_rd 160 nb st := ⟨by rw [i1 160 (by decide)]; exact hb.1, fun k a b => by rw [i1 (160 + 1) (by decide)]; exact hb.2 k a b⟩
        have hn9 : q_rd 158 n st := ⟨by rw [i1 158 (by decide)]; exact hn.1, fun k a b => by rw [i1 (158 + 1) (by decide)]; exact hn.2 k a b⟩
        have c1 := s_X6_wordAt (k := (i' : Int)) hb9 (by omega)
        have c2 := s_X6_wordAt (k := (j' : Int)) hn9 (by omega)
        rw [if_pos (by omega)] at c1 c2
        simp only [J_X11_changesHere, q_g, q_b, q_let, q_ite, q_some, z32, z64, true_or, or_true, true_and, and_true]
        rw [show ((i' + 1 : Nat) : Int) - 1 = i' by omega, show ((j' + 1 : Nat) : Int) - 1 = j' by omega]
        refine q_eq c1 ?_
        refine q_eq c2 ?_
        have hif : (if q_dig nb i' = q_dig n j' then (0 : Int) else 1) = 0 ∨ (if q_dig nb i' = q_dig n j' then (0 : Int) else 1) = 1 := by split <;> simp
        have w23 : ∀ s0 : Int, s0 = (if q_dig nb i' = q_dig n j' then 0 else 1) → J_X11_changesHere_23 ((i' + 1 : Nat) : Int) ((j' + 1 : Nat) : Int) s0 st = some (q_ed (q_dig nb) (q_dig n) (i' + 1) (j' + 1)) := fun s0 hs0 => by
          rw [← hs0] at hif
          refine q_of ?_
          rw [q_ed_ss, ← hs0]
          simp only [J_X11_changesHere_23, q_g, q_b, q_let, q_ite, q_some, z32, z64, true_or, or_true, true_and, and_true]
          rw [show ((i' + 1 : Nat) : Int) - 1 = i' by omega, show ((j' + 1 : Nat) : Int) - 1 = j' by omega, v1, v2, v3]
          refine ⟨by omega, by omega, by omega, by omega, by omega, by omega, by omega, by omega, rfl⟩
        refine ⟨⟨z6, z7⟩, fun k => q_eq (w23 0 (by rw [if_pos k])) (w55 _ _ _ rfl rfl rfl), fun k => q_eq (w23 1 (by rw [if_neg k])) (w55 _ _ _ rfl rfl rfl)⟩
    · rintro st ⟨i1, i2⟩
      simp only [J_X11_fewestChanges_b13, q_g, q_b, q_let, q_ite, q_some, z32, z64, true_or, or_true, true_and, and_true]
      rw [i1 158 (by decide), hn.1]
      exact ⟨by omega, fun _ => ⟨_, rfl, i1, fun i' j' p q r => i2 i' j' p q (by omega)⟩, fun h9 => by omega⟩
  · rintro st ⟨i1, i2⟩
    simp only [J_X11_fewestChanges_b2, q_g, q_b, q_let, q_ite, q_some, z32, z64, true_or, or_true, true_and, and_true]
    rw [i1 160 (by decide), hb.1]
    exact ⟨by omega, fun _ => ⟨_, rfl, i1, fun i' j' p q _ => i2 i' j' p q (by omega)⟩, fun h9 => by omega⟩
def q_err (n x : Int) : Int := q_ed (q_dig n) (q_dig x) (q_many n).toNat (q_many x).toNat
theorem s_X12_errors {g st0 : z_St} (hS : q_same g st0) (hB : q_RB g) {x : Int} (hx : z32 x) : q_ok (J_X12_errors x st0) (fun r => q_K g st0 r.2 ∧ (¬ q_isRow g x → r.2 168 0 = 1) ∧ (q_isRow g x → (q_bw g = none → r.2 168 0 = 2) ∧ ∀ b n : Nat, q_bestRow g b n → r.2 168 0 = 0 ∧ r.1 = q_err n x)) := by
  have hw1 := hB.2.2.2.2.1.1
  have hlen := q_len_le hB
  have hmb := q_many_bd x
  simp only [J_X12_errors, q_g, q_b, q_let, q_ite, q_some, z32, z64, true_or, or_true, true_and, and_true]
  refine q_mono (s_X12_apart hS hB.2.2.2.2.1 (Or.inr rfl) hx) ?_
  rintro ⟨many, st1⟩ ⟨a1, a2⟩
  dsimp only at a1 a2 ⊢
  have hS1 : q_same g st1 := q_same_of hS (fun y p q => a1 y (by omega))
  rcases a2 with ⟨c1, c2, c3⟩ | ⟨c1, c2⟩
  · subst c2
    have hr1 := c1.1
    refine ⟨by omega, fun h9 => by omega, fun _ => ?_⟩
    refine q_mono (s_X12_laysRows hS1 hB) ?_
    rintro ⟨b, st2⟩ ⟨d1, d2, d3, d4, d5⟩
    dsimp only at d1 d2 d3 d4 d5 ⊢
    have hS2 : q_same g st2 := ⟨fun y p q => (d1 y (by omega)).trans (hS1.1 y p q), fun j p q => (d2 j (by omega)).trans (hS1.2 j p q)⟩
    have hfl := q_bw_flag d5
    have r1 : ∀ y, (y < 168 ∨ (168 < y ∧ y < 183) ∨ y = 199) → st2 y = st0 y := fun y hy => by rw [d1 y (by omega), a1 y (by omega)]
    have r2 : ∀ j, 1 ≤ j → j ≤ 22 → st2 168 j = st0 168 j := fun j p q => by rw [d2 j (by omega), a1 168 (by decide)]
    refine ⟨by omega, fun hb => ?_, fun hb => ?_⟩
    · simp only [J_X12_errors_37, q_g, q_b, q_let, q_ite, q_some, z32, z64, true_or, or_true, true_and, and_true]
      refine q_eq (s_holds_p (by decide)) ?_
      dsimp only
      refine ⟨by decide, fun h9 => absurd h9 (by decide), fun _ => ⟨q_K_of hS (fun y p => by rw [q_up_row (by omega)]; exact r1 y p) (fun j p q => by rw [z_up_n (by omega)]; exact r2 j p q), fun h9 => absurd c1 h9, fun _ => ⟨fun _ => z_up_at, fun b' n' hb' => ?_⟩⟩⟩
      obtain ⟨q1, y, q2, _⟩ := hb'
      obtain ⟨z, hz, _⟩ := e_mins_le (f := q_wl g) (List.getElem?_eq_some_iff.mp q1).1 y q2
      have hz2 : q_bw g = some z := hz
      rw [(hfl.1 hb).2] at hz2; cases hz2
    · rcases q_bw_first d5 with ⟨h9, _⟩ | ⟨k, n, w, rfl, k1, k2, k3, k4⟩
      · omega
      have hbr : q_bestRow g k n := ⟨k1, w, k2, k4⟩
      have hrow := q_rows_isRow hB k1
      have hn56 := q_rows_lt k1
      have hk : k < q_len g := (List.getElem?_eq_some_iff.mp k1).1
      have h190 : st2 190 (k : Int) = n := by
        have hk1 : (q_rl (g 168 18).toNat 5556)[k]? = some n := k1
        exact (d4.2 k n hk1).1
      simp only [J_X12_errors_37, q_g, q_b, q_let, q_ite, q_some, z32, z64, true_or, or_true, true_and, and_true]
      refine q_eq s_holds_0 ?_
      dsimp only
      rw [q_up_row (by decide), h190]
      refine ⟨by decide, fun _ => ⟨by omega, ?_⟩, fun h9 => absurd rfl h9⟩
      refine q_mono (s_X12_apart (q_up_0 hS2) hB.2.2.2.2.1 (n := (n : Int)) (Or.inl rfl) (by omega)) ?_
      rintro ⟨mm, st3⟩ ⟨e1, e2⟩
      dsimp only at e1 e2 ⊢
      rcases e2 with ⟨f1, f2, f3⟩ | ⟨f1, _⟩
      · subst f2
        have hmb2 := q_many_bd n
        have hr2 := f1.1
        have hed := s_X12_ed (st0 := st3) (d := q_dig n) (e := q_dig x) (m := (q_many n).toNat) (l := (q_many x).toNat) (by omega) (by omega) (fun j p q => ⟨f3 j p (by omega), by have := hrow.2 j p (by omega); exact ⟨by omega, by omega⟩⟩) (fun j p q => ⟨by rw [e1 187 (by decide), q_up_row (by decide), d1 187 (by decide)]; exact c3 j p (by omega), by have := c1.2 j p (by omega); exact ⟨by omega, by omega⟩⟩)
        rw [show (((q_many n).toNat : Nat) : Int) = q_many n by omega, show (((q_many x).toNat : Nat) : Int) = q_many x by omega] at hed
        refine q_mono hed ?_
        rintro st4 ⟨g1, g2⟩
        rw [g2]
        refine ⟨by omega, q_K_of hS (fun y p => by rw [g1 y (by omega), e1 y (by omega), q_up_row (by omega)]; exact r1 y p) (fun j p q => by rw [g1 168 (by decide), e1 168 (by decide), z_up_n (by omega)]; exact r2 j p q), fun h9 => absurd c1 h9, fun _ => ⟨fun h9 => (by rw [k3] at h9; cases h9), fun b' n' hb' => ⟨by rw [g1 168 (by decide), e1 168 (by decide), z_up_at], ?_⟩⟩⟩
        obtain ⟨_, rfl⟩ := q_bestRow_uniq hbr hb'
        rfl
      · exact absurd hrow f1
  · subst c2
    refine ⟨by decide, fun _ => ?_, fun h9 => absurd rfl h9⟩
    refine q_eq (s_holds_p (by decide)) ?_
    dsimp only
    exact ⟨q_K_of hS (fun y p => by rw [q_up_row (by omega)]; exact a1 y (by omega)) (fun j p q => by rw [z_up_n (by omega), a1 168 (by decide)]), fun _ => z_up_at, fun h9 => absurd h9 c1⟩
theorem j_27 {g st : z_St} {f : Int → Int} {i : Int} (h : q_INV g st) (hf : ∀ j, z32 (f j)) : q_ok (JL_27 f i st) (fun st' => q_INV g st') := by
  have hB := h.2.1
  have hw1 := hB.2.2.2.2.1.1
  have hR := fun s (hs : q_same g s) => s_X12_errors hs hB (hf (i + 1))
  obtain ⟨x, hx⟩ : ∃ x, f (i + 1) = x := ⟨_, rfl⟩
  have zx : z32 x := hx ▸ hf (i + 1)
  rw [hx] at hR
  unfold JL_27
  rw [hx]
  have hck := s_checkRow h.2.2.1 hB zx
  have hmx := q_many_bd x
  by_cases hrow : q_isRow g x
  · have hr1 := hrow.1
    by_cases hn : q_bw g = none
    · refine j_I (code := 2) (val := 0) (by decide) (fun h9 => absurd h9 (by decide)) (l_n (X := J_X11_errors x st) (e := 2) (by decide) ?_ (fun q he hq => by unfold J_L_errors; rw [hq]; simp only [he]; rfl)) (fun s hs => q_mono (hR s hs.1) (fun q hq => ⟨hq.1, (hq.2.2 hrow).1 hn, fun h9 => absurd h9 (by decide)⟩))
      unfold J_X11_errors
      refine q_xl (hck.1 hrow) ?_
      refine q_xok (q_mono (s_checkBest h) ?_)
      intro r hr
      cases r with
      | inl s => exact absurd hn hr.1
      | inr q => exact ⟨_, rfl, hr.2.2.1, hr.2.1⟩
    · obtain ⟨b, n, hbr⟩ := q_best_ex hn
      have hbrow := q_rows_isRow hB hbr.1
      have hbr1 := hbrow.1
      have hmn := q_many_bd n
      have hv := q_ed_bd (d := q_dig n) (e := q_dig x) (q_many n).toNat (q_many x).toNat
      have hv0 : q_err n x = q_ed (q_dig n) (q_dig x) (q_many n).toNat (q_many x).toNat := rfl
      refine j_I (code := 0) (val := q_err n x) (by decide) (fun _ => ⟨by omega, by omega⟩) (l_y (X := J_X11_errors x st) ?_ (fun q h9 hq => by unfold J_L_errors; rw [hq]; show z_g (z32 q.1) _ = _; unfold z_g; rw [if_pos (show z32 q.1 from by rw [h9]; exact ⟨by omega, by omega⟩)])) (fun s hs => q_mono (hR s hs.1) (fun q hq => ⟨hq.1, ((hq.2.2 hrow).2 b n hbr).1, fun _ => ((hq.2.2 hrow).2 b n hbr).2⟩))
      unfold J_X11_errors
      refine q_xl (hck.1 hrow) ?_
      refine q_xok (q_mono (s_checkBest h) ?_)
      intro r hr
      cases r with
      | inr q => exact absurd hr.1 hn
      | inl s =>
        obtain ⟨_, hI, hTC, hRC, hcl⟩ := hr
        dsimp only
        simp only [q_g, q_b, q_let, q_ite, q_some, z32, z64, true_or, or_true, true_and, and_true]
        obtain ⟨b', n', hb', hnum⟩ := s_number0 hB hRC hn
        obtain ⟨_, rfl⟩ := q_bestRow_uniq hbr hb'
        refine q_eq hnum ?_
        dsimp only
        refine q_mono (s_X6_read (by decide) hbr1) ?_
        rintro st2 ⟨b1, b2, b3⟩
        refine q_mono (s_X6_read (by decide) hr1) ?_
        rintro st3 ⟨c1, c2, c3⟩
        have hb9 : q_rd 160 n st3 := ⟨by rw [c1 160 (by decide) (by decide)]; exact b3.1, fun k p q => by rw [c1 (160 + 1) (by decide) (by decide)]; exact b3.2 k p q⟩
        refine q_mono (s_X11_ed (m := (q_many n).toNat) (l := (q_many x).toNat) hb9 c3 (by omega) (by omega) (fun k p q => by have := hbrow.2 k p (by omega); exact ⟨by omega, by omega⟩) (fun k p q => by have := hrow.2 k p (by omega); exact ⟨by omega, by omega⟩)) ?_
        rintro ⟨v, st4⟩ ⟨d1, d2⟩
        dsimp only at d1 d2
        refine ⟨_, rfl, q_INV_mv hI (fun y hy => ?_), d2⟩
        unfold q_free at hy
        show st4 y = s y
        rw [d1 y (by omega), c1 y (by omega) (by omega), b1 y (by omega) (by omega)]
  · refine j_I (code := 1) (val := 0) (by decide) (fun h9 => absurd h9 (by decide)) (l_n (X := J_X11_errors x st) (e := 1) (by decide) ?_ (fun q he hq => by unfold J_L_errors; rw [hq]; simp only [he]; rfl)) (fun s hs => q_mono (hR s hs.1) (fun q hq => ⟨hq.1, hq.2.1 hrow, fun h9 => absurd h9 (by decide)⟩))
    unfold J_X11_errors
    exact q_xr (hck.2 hrow) ⟨_, rfl, h, rfl⟩
