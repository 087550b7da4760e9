-- LOW, ROW
theorem z_iand_nn (x : Int) : 0 ≤ z_iand x 2147483647 ∧ z_iand x 2147483647 ≤ 2147483647 := by
  have h : ∀ a : Int32, 0 ≤ (a &&& Int32.ofInt 2147483647).toInt := fun a => by
    have hm : (a &&& Int32.ofInt 2147483647).toBitVec.msb = false := by
      rw [Int32.toBitVec_and, BitVec.msb_and]
      have : (Int32.ofInt 2147483647).toBitVec.msb = false := by decide
      rw [this, Bool.and_false]
    show 0 ≤ (a &&& Int32.ofInt 2147483647).toBitVec.toInt
    rw [BitVec.toInt_eq_toNat_of_msb hm]
    exact Int.natCast_nonneg _
  exact ⟨h _, by have := Int32.toInt_le (zI x &&& zI 2147483647); exact this⟩
theorem s_low {x n : Int} {st : z_St} {P : Int → Prop} (hn : 0 < n ∧ n ≤ 2147483647) (k : ∀ v, 0 ≤ v ∧ v < n → P v) : q_ok (J_L_low x n st) P := by
  have h := z_iand_nn x
  unfold J_L_low
  rw [q_g]
  refine ⟨⟨⟨by omega, by omega⟩, ⟨by omega, by omega⟩, by omega⟩, _, rfl, k _ ?_⟩
  rw [Int.tmod_eq_emod_of_nonneg h.1]
  exact ⟨Int.emod_nonneg _ (by omega), Int.emod_lt_of_pos _ (by omega)⟩
theorem low_eq {x n : Int} {st : z_St} {α : Type} {f : Int → Option α} {P : α → Prop} (hn : 0 < n ∧ n ≤ 2147483647) (k : ∀ v, 0 ≤ v ∧ v < n → q_ok (f v) P) : q_ok (z_b (J_L_low x n st) f) P := by
  rw [q_b]; exact s_low hn k
theorem s_row {g st : z_St} (hB : q_RB g) {x n : Int} {P : Int → Prop} (hn : 2 ≤ n ∧ n ≤ g 168 18) (k : ∀ v, q_isRow g v → 1 ≤ v ∧ v ≤ 9999 → P v) : q_ok (J_L_row x n st) P := by
  have hw1 := hB.2.2.2.2.1.1
  unfold J_L_row
  refine low_eq (by decide) (fun r1 h1 => ?_)
  rw [q_b]
  refine q_mono (P := fun v => q_isRow g v) ?_ (fun v hv => ⟨v, rfl, k v hv (by have := q_many_bd v; exact this.2.2 hv.1)⟩)
  refine q_loop (fun q => (0 ≤ q.2 ∧ q.2 ≤ 1 + r1) ∧ (q.2 = 0 → q.1 = 0) ∧ (1 ≤ q.2 → q_isRow g q.1 ∧ q_many q.1 = q.2)) (fun q => (1 + r1 - q.2).toNat) ⟨⟨by decide, by show (0:Int) ≤ 1 + r1; omega⟩, fun _ => rfl, fun h => absurd h (by decide)⟩ (by show (1 + r1 - 0).toNat < _; omega) ?_
  rintro ⟨a, b⟩ ⟨i1, i2, i3⟩
  dsimp only at i1 i2 i3
  simp only [J_L_row_b13, q_g, q_b, q_let, q_ite, q_some, z32, z64, true_or, or_true, true_and, and_true]
  refine ⟨by omega, fun hlt => ?_, fun hge => ?_⟩
  · refine s_low (by omega) (fun r3 h3 => ?_)
    have key : q_isRow g (10 * a + 1 + r3) ∧ q_many (10 * a + 1 + r3) = b + 1 := by
      by_cases hb : b = 0
      · have ha := i2 hb
        subst ha hb
        have := q_isRow_1 hB (w := r3.toNat) (by omega)
        rw [show ((r3.toNat + 1 : Nat) : Int) = 10 * 0 + 1 + r3 by omega] at this
        refine ⟨this, ?_⟩
        unfold q_many
        rw [if_neg (by omega), if_pos (by omega)]
        rfl
      · obtain ⟨j1, j2⟩ := i3 (by omega)
        obtain ⟨m, hm, _⟩ := q_isRow_nat j1
        have h1000 : m < 1000 := by
          have h9 : q_many a = b := j2
          unfold q_many at h9
          omega
        have := q_isRow_ch hB (n := m) (w := r3.toNat) (by rw [← hm]; exact j1) h1000 (by omega)
        rw [show ((10 * m + r3.toNat + 1 : Nat) : Int) = 10 * a + 1 + r3 by omega] at this
        refine ⟨this, ?_⟩
        have h9 : q_many a = b := j2
        unfold q_many at h9 ⊢
        omega
    exact ⟨⟨⟨by omega, by omega⟩, fun h => by omega, fun _ => key⟩, by omega⟩
  · exact (i3 (by omega)).1
-- BEST: every place under the count has its row
def q_N (g : z_St) : Nat := e_cnt (fun i => (q_wl g i).isSome) (q_len g)
theorem q_sum8 {g : z_St} : q_sum g 8 = (q_N g : Int) := by unfold q_sum; rw [if_pos (by decide)]; rfl
theorem q_surj {g st : z_St} (h : q_INV g st) : ∀ x : Nat, x < q_N g → ∃ i, i < q_len g ∧ q_wl g i ≠ none ∧ q_rank g i = x := by
  obtain ⟨st1, _, a1, _, a3, _, _, _⟩ := s_readyRows h
  obtain ⟨hS, hB, hC, hT, hR, hL, hP, hptr⟩ := a1
  obtain ⟨st2, _, _, _, b3, _⟩ := s_X5_sort hB a3 hptr rfl rfl
  obtain ⟨a, b, _, _, _, p4⟩ := b3
  intro x hx
  obtain ⟨i, _, q2, q3, q4⟩ := p4 x hx
  exact ⟨i, q2, q3, q4⟩
theorem q_rank_N {g : z_St} (hB : q_RB g) {k : Nat} (hk : k < q_len g) (hkn : q_wl g k ≠ none) : q_rank g k < q_N g := by
  have : ∀ m, m ≤ q_len g → e_cnt (q_ah g k) m ≤ e_cnt (fun k => (q_wl g k).isSome) m ∧ (k < m → e_cnt (q_ah g k) m < e_cnt (fun k => (q_wl g k).isSome) m) := by
    intro m
    induction m with
    | zero => intro _; show 0 ≤ 0 ∧ (k < 0 → 0 < 0); exact ⟨Nat.le_refl 0, fun h => absurd h (Nat.not_lt_zero _)⟩
    | succ m ih =>
      intro hm
      obtain ⟨i1, i2⟩ := ih (by omega)
      have ea : e_cnt (q_ah g k) (m + 1) = e_cnt (q_ah g k) m + (if q_ah g k m = true then 1 else 0) := rfl
      have eb : e_cnt (fun k => (q_wl g k).isSome) (m + 1) = e_cnt (fun k => (q_wl g k).isSome) m + (if (q_wl g m).isSome = true then 1 else 0) := rfl
      have himp : q_ah g k m = true → (q_wl g m).isSome = true := fun hq => by
        unfold q_ah at hq
        simp only [Bool.or_eq_true, Bool.and_eq_true, decide_eq_true_eq] at hq
        cases hwk : q_wl g k with
        | none => exact absurd hwk hkn
        | some z =>
          have hz := q_wl_bd hB k z hwk
          rw [hwk, e_I_some] at hq
          cases hwm : q_wl g m with
          | none => rw [hwm, e_I_none] at hq; omega
          | some y => rfl
      refine ⟨?_, fun hkm => ?_⟩
      · by_cases hq : q_ah g k m = true
        · rw [if_pos hq] at ea; rw [if_pos (himp hq)] at eb; omega
        · rw [if_neg hq] at ea; omega
      · by_cases ekm : k = m
        · subst ekm
          have hself : ¬ q_ah g k k = true := fun hq => by
            unfold q_ah at hq
            simp only [Bool.or_eq_true, Bool.and_eq_true, decide_eq_true_eq] at hq
            omega
          have hsome : (q_wl g k).isSome = true := by
            cases hwk : q_wl g k with
            | none => exact absurd hwk hkn
            | some z => rfl
          rw [if_neg hself] at ea
          rw [if_pos hsome] at eb
          omega
        · have := i2 (by omega)
          by_cases hq : q_ah g k m = true
          · rw [if_pos hq] at ea; rw [if_pos (himp hq)] at eb; omega
          · rw [if_neg hq] at ea; omega
  exact (this (q_len g) (Nat.le_refl _)).2 hk
/-- what best answers: the row of that place, or -1 behind the last -/
def q_bi (g : z_St) (x v : Int) : Prop := (x < q_N g ∧ ∃ k n : Nat, (q_rows g)[k]? = some n ∧ q_wl g k ≠ none ∧ (q_rank g k : Int) = x ∧ v = n ∧ 1 ≤ n) ∨ (¬ x < q_N g ∧ v = -1)
theorem q_bi_of {g st : z_St} (h : q_INV g st) {x v : Int} (h0 : 0 ≤ x) (hv : q_best g x v) : q_bi g x v := by
  have hB := h.2.1
  rcases hv with ⟨e, hv⟩ | ⟨k, n, h1, h2, h3, h4⟩
  · refine Or.inr ⟨fun hx => ?_, e⟩
    obtain ⟨i, i1, i2, i3⟩ := q_surj h x.toNat (by omega)
    exact hv i i1 i2 (by omega)
  · have hk : k < q_len g := (List.getElem?_eq_some_iff.mp h1).1
    have := q_rank_N hB hk h2
    obtain ⟨n', e1, e2, _⟩ := q_isRow_nat (q_rows_isRow hB h1)
    exact Or.inl ⟨by omega, k, n, h1, h2, h3, h4, by omega⟩
theorem b_best {g st : z_St} (h : q_INV g st) {x : Int} (hx : z32 x) (h0 : 0 ≤ x) : q_ok (J_L_ask 17 x 0 st) (fun r => q_INV g r.2 ∧ q_bi g x r.1 ∧ -1 ≤ r.1 ∧ r.1 ≤ 9999) := by
  refine ask_of (q_mono (a_best h hx h0) ?_)
  rintro r ⟨a1, a2, a3, a4⟩
  exact ⟨a1, q_bi_of h h0 a2, a3, a4⟩
/-- the best row of all, or none -/
def q_b0 (g : z_St) (v : Int) : Prop := (q_bw g = none ∧ v = -1) ∨ ∃ b n : Nat, q_bestRow g b n ∧ v = n ∧ q_isRow g n ∧ 1 ≤ n ∧ n ≤ 9999
theorem b_best0 {g st : z_St} (h : q_INV g st) : q_ok (J_L_ask 17 0 0 st) (fun r => q_INV g r.2 ∧ q_b0 g r.1) := by
  refine ask_of (q_mono (a_best h (x := 0) (b := 0) (c := 0) (d := 0) (by decide) (by decide)) ?_)
  rintro r ⟨a1, a2, a3, a4⟩
  have hB := h.2.1
  refine ⟨a1, ?_⟩
  by_cases hn : q_bw g = none
  · refine Or.inl ⟨hn, ?_⟩
    rcases q_bi_of h (by decide) a2 with ⟨h1, _⟩ | ⟨_, h1⟩
    · have := q_bw_cnt.mpr hn
      unfold q_N at h1; omega
    · exact h1
  · obtain ⟨b, n, hb⟩ := q_best_ex hn
    have hr := q_rows_isRow hB hb.1
    obtain ⟨n', e1, e2, e3⟩ := q_isRow_nat hr
    refine Or.inr ⟨b, n, hb, q_best_uniq a2 (Or.inr ⟨b, n, hb.1, ?_, ?_, rfl⟩), hr, by omega, by omega⟩
    · obtain ⟨_, y, hy, _⟩ := hb
      rw [hy]; exact fun h => nomatch h
    · rw [q_rank0 hB hb]; rfl
-- index order is number order
theorem q_rl_lt (w : Nat) : ∀ n i j a b : Nat, (q_rl w n)[i]? = some a → (q_rl w n)[j]? = some b → i < j → a < b := by
  intro n
  induction n with
  | zero => intro i j a b h; simp [q_rl] at h
  | succ n ih =>
    intro i j a b h1 h2 hij
    have hlt : ∀ i a, (q_rl w n)[i]? = some a → a < n := fun i a h => by
      have hm := List.mem_of_getElem? h
      unfold q_rl at hm
      exact List.mem_range.mp (List.mem_filter.mp hm).1
    rw [q_rl_succ] at h1 h2
    by_cases hb : q_rowB w n = true
    · rw [if_pos hb] at h1 h2
      by_cases hi : i < (q_rl w n).length
      · rw [List.getElem?_append_left hi] at h1
        by_cases hj : j < (q_rl w n).length
        · rw [List.getElem?_append_left hj] at h2
          exact ih i j a b h1 h2 hij
        · rw [List.getElem?_append_right (by omega)] at h2
          have hb2 : b = n := by
            have := List.mem_of_getElem? h2
            simpa using this
          have := hlt i a h1
          omega
      · rw [List.getElem?_append_right (by omega)] at h2
        have hl := (List.getElem?_eq_some_iff.mp h2).1
        simp at hl
        omega
    · rw [if_neg hb] at h1 h2
      exact ih i j a b h1 h2 hij
theorem q_rows_lt2 {g : z_St} {i j a b : Nat} (h1 : (q_rows g)[i]? = some a) (h2 : (q_rows g)[j]? = some b) : a < b ↔ i < j := by
  have k := q_rl_lt (g 168 18).toNat 5556
  constructor
  · intro h
    by_cases hij : i < j
    · exact hij
    · by_cases e : i = j
      · subst e; rw [h1] at h2; cases h2; omega
      · have := k j i b a h2 h1 (by omega); omega
  · intro h; exact k i j a b h1 h2 h
