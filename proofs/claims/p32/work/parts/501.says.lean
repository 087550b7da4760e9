-- THE TEXT BECOMES A SAYING
theorem q_cpy_row {st : z_St} {s d n x : Int} (h : x ≠ d) : z_cpy st s d n x = st x := by
  funext y
  exact if_neg (fun k => h k.1)
theorem q_cpy_at {st : z_St} {s d n y : Int} : z_cpy st s d n d y = if 0 ≤ y ∧ y < n then st s y else st d y := by
  show (if d = d ∧ 0 ≤ y ∧ y < n then st s y else st d y) = _
  by_cases h : 0 ≤ y ∧ y < n
  · rw [if_pos ⟨rfl, h⟩, if_pos h]
  · rw [if_neg (fun k => h k.2), if_neg h]
def q_b01 (r : Int) : Prop := r = 0 ∨ r = 1
/-- the text can be said -/
def q_can (g : z_St) : Prop := 0 < g 168 13 ∧ ∀ k, 0 ≤ k → k < g 168 13 → g 177 k < g 168 11
theorem s_X4_textCanBeSaid {g st : z_St} (hC : q_C g st) (hB : q_RB g) : q_ok (J_X4_textCanBeSaid st) (fun r => (r = 0 ∧ ¬ q_can g) ∨ (r = 1 ∧ q_can g)) := by
  obtain ⟨t1, t2⟩ := hC.2.2.2.1
  have n1 := hC.2.2.1.1
  have ht := hB.2.2.2.1
  have ht1 := ht.1
  have hn1 := hB.2.2.1.1
  simp only [J_X4_textCanBeSaid, q_g, q_b, q_let, q_ite, q_some, z32, z64, true_or, or_true, true_and, and_true]
  refine q_mono (P := fun r : Unit ⊕ Unit => match r with | .inl _ => ∀ k, 0 ≤ k → k < g 168 13 → g 177 k < g 168 11 | .inr _ => ∃ k, 0 ≤ k ∧ k < g 168 13 ∧ ¬ g 177 k < g 168 11) ?_ ?_
  · refine q_loop (fun v => ∃ k : Nat, v = k ∧ (k : Int) ≤ g 168 13 ∧ ∀ j, 0 ≤ j → j < (k : Int) → g 177 j < g 168 11) (fun v => (10 - v).toNat) ⟨0, rfl, by omega, fun j a b => by omega⟩ (by show (10 - (0 : Int)).toNat < _; decide) ?_
    rintro v ⟨k, rfl, h1, h2⟩
    simp only [J_X4_textCanBeSaid_b2, q_g, q_b, q_let, q_ite, q_some, z32, z64, true_or, or_true, true_and, and_true]
    rw [t1, n1]
    refine ⟨by omega, fun hlt => ⟨by omega, ?_⟩, fun hge j a b => h2 j a (by omega)⟩
    have h3 := ht.2 k (by omega) (by omega)
    rw [t2 k (by omega) (by omega)]
    refine ⟨by omega, fun hy => ⟨⟨k + 1, by omega, by omega, fun j a b => ?_⟩, by omega⟩, fun hn => ⟨k, by omega, hlt, hn⟩⟩
    by_cases e : j = k
    · rw [e]; exact hy
    · exact h2 j a (by omega)
  · intro r hr
    cases r with
    | inl u =>
      dsimp only at hr ⊢
      simp only [J_X4_textCanBeSaid_43, q_g, q_b, q_let, q_ite, q_some, z32, z64, true_or, or_true, true_and, and_true]
      rw [t1]
      refine ⟨by omega, fun h => Or.inr ⟨h, hr⟩, fun h => Or.inl (fun k => h k.1)⟩
    | inr u =>
      obtain ⟨k, a, b, c⟩ := hr
      dsimp only
      rw [q_some]
      exact Or.inl ⟨rfl, fun h => c (h.2 k a b)⟩
theorem s_X12_isSaid {g st : z_St} (hS : q_same g st) (hB : q_RB g) : q_ok (J_X12_isSaid st) (fun r => (r = 0 ∧ ¬ q_can g) ∨ (r = 1 ∧ q_can g)) := by
  have ht := hB.2.2.2.1
  have ht1 := ht.1
  have hn1 := hB.2.2.1.1
  have e13 := hS.2 13 (by decide) (by decide)
  have e11 := hS.2 11 (by decide) (by decide)
  have e177 := hS.1 177 (by decide) (by decide)
  have key : ∀ s0 : Int, (s0 = 0 ∨ s0 = 1) → q_ok (J_X12_isSaid_12 s0 st) (fun r => q_b01 r ∧ (r = 1 ↔ s0 = 1 ∧ ∀ k, 0 ≤ k → k < g 168 13 → g 177 k < g 168 11)) := fun s0 hs0 => by
    simp only [J_X12_isSaid_12, q_g, q_b, q_let, q_ite, q_some, z32, z64, true_or, or_true, true_and, and_true]
    refine q_mono (P := fun r => q_b01 r ∧ (r = 1 ↔ s0 = 1 ∧ ∀ k, 0 ≤ k → k < g 168 13 → g 177 k < g 168 11)) ?_ (fun r hr => ⟨by unfold q_b01 at hr; exact hr.1, hr⟩)
    refine q_loop (fun v => ∃ k : Nat, v.2 = k ∧ (k : Int) ≤ g 168 13 ∧ q_b01 v.1 ∧ (v.1 = 1 ↔ s0 = 1 ∧ ∀ j, 0 ≤ j → j < (k : Int) → g 177 j < g 168 11)) (fun v => (10 - v.2).toNat) ⟨0, rfl, by omega, hs0, ⟨fun h => ⟨h, fun j a b => by omega⟩, fun h => h.1⟩⟩ (by show (10 - (0 : Int)).toNat < _; decide) ?_
    rintro ⟨u, v⟩ ⟨k, hv, h1, h2, h3⟩
    dsimp only at hv h2 h3 ⊢
    have h2' : u = 0 ∨ u = 1 := h2
    subst hv
    simp only [J_X12_isSaid_b15, J_X12_isSaid_44, J_X12_isSaid_45, q_g, q_b, q_let, q_ite, q_some, z32, z64, true_or, or_true, true_and, and_true]
    rw [e13, e11, e177]
    refine ⟨by omega, fun hlt => ⟨by omega, fun hu => ⟨⟨k + 1, by omega, by omega, Or.inl rfl, ⟨fun h9 => by omega, fun h9 => ?_⟩⟩, by omega⟩, fun hu => ⟨by omega, ?_⟩⟩, fun hge => ⟨h2, ⟨fun h9 => ⟨(h3.mp h9).1, fun j a b => (h3.mp h9).2 j a (by omega)⟩, fun h9 => h3.mpr ⟨h9.1, fun j a b => h9.2 j a (by omega)⟩⟩⟩⟩
    · have := h3.mpr ⟨h9.1, fun j a b => h9.2 j a (by omega)⟩
      omega
    · have h4 := ht.2 k (by omega) (by omega)
      have hu1 := h3.mp (by omega)
      refine ⟨by omega, fun hy => ⟨⟨k + 1, by omega, by omega, Or.inr rfl, ⟨fun _ => ⟨hu1.1, fun j a b => ?_⟩, fun _ => trivial⟩⟩, by omega⟩, fun hn => ⟨⟨k + 1, by omega, by omega, Or.inl rfl, ⟨fun h9 => by omega, fun h9 => ?_⟩⟩, by omega⟩⟩
      · by_cases e : j = k
        · rw [e]; exact hy
        · exact hu1.2 j a (by omega)
      · exact absurd (h9.2 k (by omega) (by omega)) hn
  simp only [J_X12_isSaid, q_g, q_b, q_let, q_ite, q_some, z32, z64, true_or, or_true, true_and, and_true]
  rw [e13]
  refine ⟨by omega, fun h => ?_, fun h => ?_⟩
  · refine q_mono (key 1 (Or.inr rfl)) ?_
    rintro r ⟨h1, h2⟩
    unfold q_b01 at h1
    by_cases e : r = 1
    · exact Or.inr ⟨e, h, (h2.mp e).2⟩
    · exact Or.inl ⟨by omega, fun h9 => e (h2.mpr ⟨rfl, h9.2⟩)⟩
  · refine q_mono (key 0 (Or.inl rfl)) ?_
    rintro r ⟨h1, h2⟩
    unfold q_b01 at h1
    refine Or.inl ⟨?_, fun h9 => h h9.1⟩
    by_cases e : r = 1
    · have := (h2.mp e).1; omega
    · omega
theorem s_X4_addSaying {st : z_St} {w x n k : Int} (hw : 0 ≤ w ∧ w < 5) (hk : st 27 w = k) (hk1 : 0 ≤ k ∧ k ≤ 1) (hn : st 24 6 = n) (hn4 : 0 ≤ n ∧ n ≤ 4) : J_X4_addSaying w x st = some (z_up (z_up (z_up (z_up (z_cpy st 28 (59 + 3 * (2 * w + k) + 1) n) (59 + 3 * (2 * w + k)) 2 n) (59 + 3 * (2 * w + k)) 3 x) 27 w (k + 1)) 24 6 0) := by
  refine q_of ?_
  simp only [J_X4_addSaying, q_g, q_b, q_let, q_ite, q_some, z32, z64, true_or, or_true, true_and, and_true]
  rw [hk, hn]
  refine ⟨by omega, q_eq (s_X4_sayingOf (by omega)) ?_⟩
  have e1 : z_cpy st 28 (59 + 3 * (2 * w + k) + 1) n 24 = st 24 := q_cpy_row (by omega)
  have e2 : z_cpy st 28 (59 + 3 * (2 * w + k) + 1) n 27 = st 27 := q_cpy_row (by omega)
  simp (disch := omega) only [q_up_row, z_up_at, q_up_ne, e1, e2, hk, hn]
  exact ⟨by unfold z_isSaying; omega, by omega, by omega, by omega, trivial⟩
def q_saidS (g0 g : z_St) (w x n k : Int) : Prop := (∀ y, y ≠ 178 → y ≠ 179 → y ≠ 180 → y ≠ 181 → y ≠ 168 → g y = g0 y) ∧ (∀ j, j ≠ 13 → g 168 j = g0 168 j) ∧ g 168 13 = 0 ∧ (∀ v, g 178 v = if v = w then k + 1 else g0 178 v) ∧ (∀ j, g 179 j = if j = 2 * w + k then n else g0 179 j) ∧ (∀ j, g 181 j = if j = 2 * w + k then x else g0 181 j) ∧ ∀ q, g 180 q = if 4 * (2 * w + k) ≤ q ∧ q < 4 * (2 * w + k) + n then g0 177 (q - 4 * (2 * w + k)) else g0 180 q
theorem s_X12_says {st : z_St} {w x n k : Int} (hw : 0 ≤ w ∧ w < 5) (hk : st 178 w = k) (hk1 : 0 ≤ k ∧ k ≤ 1) (hn : st 168 13 = n) (hn4 : 0 ≤ n ∧ n ≤ 4) : q_ok (J_X12_says w x st) (fun r => r.1 = n ∧ q_saidS st r.2 w x n k) := by
  simp only [J_X12_says, q_g, q_b, q_let, q_ite, q_some, z32, z64, true_or, or_true, true_and, and_true]
  rw [hk, hn]
  refine ⟨by omega, by omega, by omega, ?_⟩
  obtain ⟨st3, hst3⟩ : ∃ s, s = z_up (z_up st 179 (2 * w + k) n) 181 (2 * w + k) x := ⟨_, rfl⟩
  rw [← hst3]
  have f1 : ∀ y, y ≠ 179 → y ≠ 181 → st3 y = st y := fun y a b => by rw [hst3, q_up_row b, q_up_row a]
  refine q_mono (P := fun s : z_St => (∀ y, y ≠ 180 → s y = st3 y) ∧ ∀ q, s 180 q = if 4 * (2 * w + k) ≤ q ∧ q < 4 * (2 * w + k) + n then st 177 (q - 4 * (2 * w + k)) else st 180 q) ?_ ?_
  · refine q_for0 (fun p s => (∀ y, y ≠ 180 → s y = st3 y) ∧ ∀ q, s 180 q = if 4 * (2 * w + k) ≤ q ∧ q < 4 * (2 * w + k) + p then st 177 (q - 4 * (2 * w + k)) else st 180 q) n.toNat (by omega) ⟨fun _ _ => rfl, fun q => by rw [if_neg (by omega), f1 180 (by decide) (by decide)]⟩ ?_ ?_
    · rintro p s hp ⟨i1, i2⟩
      simp only [J_X12_says_b31, q_g, q_b, q_let, q_ite, q_some, z32, z64, true_or, or_true, true_and, and_true]
      rw [i1 168 (by decide), i1 177 (by decide), f1 168 (by decide) (by decide), f1 177 (by decide) (by decide), hn]
      refine ⟨by omega, fun _ => ⟨by omega, by omega, _, rfl, fun y hy => (q_up_row hy).trans (i1 y hy), fun q => ?_⟩, fun h9 => by omega⟩
      rw [q_up_at]
      by_cases e : q = 4 * (2 * w + k) + p
      · rw [if_pos e, if_pos (by omega), show q - 4 * (2 * w + k) = p by omega]
      · rw [if_neg e, i2 q]
        by_cases e2 : 4 * (2 * w + k) ≤ q ∧ q < 4 * (2 * w + k) + p
        · rw [if_pos e2, if_pos (by omega)]
        · rw [if_neg e2, if_neg (by omega)]
    · rintro s ⟨i1, i2⟩
      simp only [J_X12_says_b31, q_g, q_b, q_let, q_ite, q_some, z32, z64, true_or, or_true, true_and, and_true]
      rw [i1 168 (by decide), f1 168 (by decide) (by decide), hn]
      refine ⟨by omega, fun h9 => by omega, fun _ => ⟨_, rfl, i1, fun q => ?_⟩⟩
      have := i2 q
      rw [show ((n.toNat : Nat) : Int) = n by omega] at this
      exact this
  · rintro s ⟨i1, i2⟩
    have hs : ∀ y, y ≠ 179 → y ≠ 180 → y ≠ 181 → s y = st y := fun y a b c => (i1 y b).trans (f1 y a c)
    refine ⟨by omega, by omega, ?_, fun y a b c d e => ?_, fun j hj => ?_, z_up_at, fun v => ?_, fun j => ?_, fun j => ?_, fun q => ?_⟩
    · rw [q_up_row (by decide), hs 168 (by decide) (by decide) (by decide)]; exact hn
    · rw [q_up_row e, q_up_row a]; exact hs y b c d
    · rw [q_up_ne hj, q_up_row (by decide), hs 168 (by decide) (by decide) (by decide)]
    · rw [q_up_row (by decide), q_up_at, hs 178 (by decide) (by decide) (by decide), hk]
    · rw [q_up_row (by decide), q_up_row (by decide), i1 179 (by decide), hst3, q_up_row (by decide), q_up_at]
    · rw [q_up_row (by decide), q_up_row (by decide), i1 181 (by decide), hst3, q_up_at, q_up_row (by decide)]
    · rw [q_up_row (by decide), q_up_row (by decide), i2 q]
/-- what a new SAYING is to both -/
theorem q_G5_says {g0 c0 g c : z_St} (h : q_G5 g0 c0) (h4 : q_G4 g0 c0) {w x n k W : Int} (hw : 0 ≤ w ∧ w < 5) (hx : 0 ≤ x ∧ x ≤ 9999) (hn : g0 168 13 = n) (hk : g0 178 w = k) (hk1 : 0 ≤ k ∧ k ≤ 1) (hcan : q_can g0) (hW : (W = g0 168 18 ∧ w < W) ∨ (w = g0 168 18 ∧ W = w + 1)) (e18 : g 168 18 = W) (e11 : g 168 11 = g0 168 11) (e178 : ∀ v, g 178 v = if v = w then k + 1 else g0 178 v) (e179 : ∀ j, g 179 j = if j = 2 * w + k then n else g0 179 j) (e181 : ∀ j, g 181 j = if j = 2 * w + k then x else g0 181 j) (e180 : ∀ q, g 180 q = if 4 * (2 * w + k) ≤ q ∧ q < 4 * (2 * w + k) + n then g0 177 (q - 4 * (2 * w + k)) else g0 180 q) (c24 : c 24 4 = W) (c27 : ∀ v, c 27 v = if v = w then k + 1 else c0 27 v) (c59 : ∀ j, 0 ≤ j → j < 10 → c (59 + 3 * j) 2 = (if j = 2 * w + k then n else c0 (59 + 3 * j) 2) ∧ c (59 + 3 * j) 3 = (if j = 2 * w + k then x else c0 (59 + 3 * j) 3) ∧ ∀ p, 0 ≤ p → p < 4 → c (59 + 3 * j + 1) p = if j = 2 * w + k ∧ p < n then c0 28 p else c0 (59 + 3 * j + 1) p) : q_G5 g c := by
  obtain ⟨⟨r1, r2, r3, r4, r5, r6, r7⟩, k1, k2, k3⟩ := h
  obtain ⟨⟨t1, t2⟩, u1, u2⟩ := h4
  have hcan1 := hcan.1
  have hcan2 := hcan.2
  rw [hn] at t1 hcan1 hcan2
  refine ⟨⟨?_, fun v a b => ?_, fun v a b => ?_, fun v a b => ?_, fun j a b => ⟨?_, ?_⟩, fun q a b => ?_, fun v j a b d e => ?_⟩, ?_, fun v a b => ?_, fun j a b => ⟨?_, ?_, fun p d e => ?_⟩⟩
  · rw [e18]; omega
  · rw [e178]; have := r2 v a b; split <;> omega
  · rw [e178]; rw [e18] at b
    by_cases e : v = w
    · rw [if_pos e]; omega
    · rw [if_neg e]; exact r3 v a (by omega)
  · rw [e178]; rw [e18] at a
    rw [if_neg (by omega)]; exact r4 v (by omega) b
  · rw [e179]; have := (r5 j a b).1; split <;> omega
  · rw [e181]; have := (r5 j a b).2; split <;> omega
  · rw [e180]
    by_cases e : 4 * (2 * w + k) ≤ q ∧ q < 4 * (2 * w + k) + n
    · rw [if_pos e]; exact t2 _ (by omega) (by omega)
    · rw [if_neg e]; exact r6 q a b
  · rw [e178] at e
    rw [e179, e11]
    have hv2 := r2 v a b
    by_cases e9 : 2 * v + j = 2 * w + k
    · rw [if_pos e9]
      refine ⟨by omega, fun p q s => ?_⟩
      rw [e180, if_pos (by omega)]
      exact hcan2 _ (by omega) (by omega)
    · rw [if_neg e9]
      have hj : j < g0 178 v := by
        by_cases e8 : v = w
        · subst e8; rw [if_pos rfl] at e; omega
        · rw [if_neg e8] at e; exact e
      obtain ⟨h1, h2⟩ := r7 v j a b d hj
      refine ⟨h1, fun p q s => ?_⟩
      have h179 := r5 (2 * v + j) (by omega) (by omega)
      rw [e180, if_neg (by omega)]
      exact h2 p q s
  · rw [c24, e18]
  · rw [c27, e178, k2 v a b]
  · rw [(c59 j a b).1, e179, (k3 j a b).1]
  · rw [(c59 j a b).2.1, e181, (k3 j a b).2.1]
  · rw [(c59 j a b).2.2 p d e, e180, (k3 j a b).2.2 p d e, u2 p d e]
    by_cases e9 : j = 2 * w + k ∧ p < n
    · rw [if_pos e9, if_pos (by omega), show 4 * j + p - 4 * (2 * w + k) = p by omega]
    · rw [if_neg e9, if_neg (by omega)]
