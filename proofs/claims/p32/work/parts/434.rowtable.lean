-- THE CLASS'S ROWS
theorem q_TC_of {g st st' : z_St} (h : q_TC g st) (hB : q_RB g) (k : ∀ x, q_isT x → x ≠ 99 → st' x = st x) : q_TC g st' := by
  have hw0 := hB.2.2.2.2.1
  have hw1 := hw0.1
  obtain ⟨h1, h2, h3, h4, h5⟩ := h
  refine ⟨q_near_of h1 hB (fun x a b => k x (Or.inr (by omega)) (by omega)), fun w i a b c d => ?_, fun w f t a b c d e => ?_, fun w f t a b c d e => ?_, fun a b c d e f => ?_⟩
  · have := hw0.2.1 w a (by omega)
    exact q_kind_of (h2 w i a b c d) (k _ (Or.inl (by omega)) (by omega))
  · rw [k 125 (Or.inr (by omega)) (by omega)]; exact h3 w f t a b c d e
  · rw [k 125 (Or.inr (by omega)) (by omega)]; exact h4 w f t a b c d e
  · rw [k _ (Or.inr (by omega)) (by omega)]; exact h5 a b c d e f
theorem q_ix_s {w : Int} (h : 0 ≤ w) : q_ix (w + 1) = w := by unfold q_ix; rw [if_neg (by omega)]; omega
theorem q_ix_0 : q_ix (-1 + 1) = 5 := rfl
theorem e_I_le {K B : Int} {a : Option Int} (ha : e_bd B a) (hK : 0 ≤ K) (hB : B < K) : 0 ≤ e_I K a ∧ e_I K a ≤ K ∧ (e_I K a < K ↔ a ≠ none) := by
  cases a with
  | none => exact ⟨hK, Int.le_refl _, ⟨fun h => absurd h (Int.lt_irrefl _), fun h => absurd rfl h⟩⟩
  | some x =>
    have := ha x rfl
    rw [e_I_some]
    refine ⟨this.1, by omega, ⟨fun _ => ?_, fun _ => by omega⟩⟩
    intro h; cases h
theorem e_acc {K B C D : Int} {a b c : Option Int} (ha : e_bd B a) (hb : e_bd C b) (hc : e_bd D c) (hK : 0 ≤ K) (hB : B < K) (hC : C < K) (hD : D < K) (hCD : C + D < K) : min (e_I K a) (e_I K b + e_I K c) = e_I K (e_min a (e_add b c)) := by
  have h1 := e_I_le ha hK hB
  have h2 := e_I_le hb hK hC
  have h3 := e_I_le hc hK hD
  cases b with
  | none =>
    show min (e_I K a) (K + e_I K c) = e_I K (e_min a none)
    rw [e_min_none]
    omega
  | some y => cases c with
    | none =>
      show min (e_I K a) (y + K) = e_I K (e_min a none)
      have := hb y rfl
      rw [e_min_none]
      omega
    | some z =>
      have h4 := hb y rfl
      have h5 := hc z rfl
      cases a with
      | none =>
        show min K (y + z) = y + z
        omega
      | some x =>
        show min x (y + z) = if x ≤ y + z then x else y + z
        omega
theorem q_A_bd {g : z_St} (hB : q_RB g) {n : Int} {t : Nat} (h : ∀ j : Int, 0 ≤ j → j < q_many n → 0 ≤ q_dig n j ∧ q_dig n j < g 168 18) (ht : t ≤ g 168 2) : e_bd 10000000000000 (q_A g n t) := by
  have hmb := q_many_bd n
  have hw1 := hB.2.2.2.2.1.1
  have h1 := q_F_bd hB (d := q_dig n) (q_many n).toNat t (fun j hj => by have := h j (by omega) (by omega); omega) ht
  have h2 := q_tl_bd hB h (q_many n).toNat (by omega)
  rw [q_tl_congr (m' := 99) (d' := q_dig n) (by omega) (by omega) (fun _ _ => rfl)] at h2
  have h3 : e_bd 1000000000 (some (q_tl g (q_dig n) 99 (q_many n).toNat)) := fun x hx => by cases hx; omega
  exact e_bd_le (by omega) (e_bd_add h1 h3)
theorem q_A_row {g : z_St} (hB : q_RB g) {i n t : Nat} (h : (q_rows g)[i]? = some n) (ht : t ≤ g 168 2) : e_bd 10000000000000 (q_A g n t) := q_A_bd hB (q_rows_isRow hB h).2 ht
theorem q_A_0 {g : z_St} {n : Int} (h : 1 ≤ q_many n) : q_A g n 0 = none := by
  unfold q_A
  obtain ⟨k, hk⟩ : ∃ k, (q_many n).toNat = k + 1 := ⟨(q_many n).toNat - 1, by omega⟩
  rw [hk]; rfl
/-- the parent v1 and the numbers of its children -/
def q_par (g : z_St) (v1 : Int) (num : Nat → Nat) (st : z_St) : Prop := (v1 = -1 ∧ ∀ j, num j = j + 1) ∨ ∃ i n : Nat, v1 = (i : Int) ∧ i < 155 ∧ (q_rows g)[i]? = some n ∧ 1 ≤ n ∧ n < 1000 ∧ (∀ j, num j = 10 * n + j + 1) ∧ st 135 i = n ∧ ∀ t : Nat, t ≤ g 168 2 → st 137 ((i : Int) * 17 + t) = e_I 1152921504606846976 (q_A g n t)
theorem s_arrive_87 {g st : z_St} (hB : q_RB g) (hT : q_TC g st) {j s0 : Int} {a : Option Int} (ha : e_bd 20000000000000 a) (hj : 0 ≤ j ∧ j < g 168 18) (hs : -1 ≤ s0 ∧ s0 < g 168 18) : J_X5_arrive_87 j (e_I 1152921504606846976 a) s0 st = some (e_I 1152921504606846976 (e_add a (some (q_dear g (q_ix (s0 + 1)) j)))) := by
  have hw1 := hB.2.2.2.2.1.1
  have hb := e_I_le (K := 1152921504606846976) ha (by decide) (by decide)
  refine q_of ?_
  simp only [J_X5_arrive_87, J_X5_arrive_115, q_g, q_b, q_let, q_ite, q_some, z32, z64, true_or, or_true, true_and, and_true]
  rw [e_addc_N ha (by decide)]
  refine ⟨by omega, fun h => ?_, fun h => by rw [if_neg h]⟩
  refine q_eq (s_X0_toll (by omega)) ?_
  rw [hT.2.2.2.2 s0 j (by omega) (by omega) (by omega) (by omega), q_ix_s (w := j) (by omega), if_pos h]
theorem s_X5_arrive {g st : z_St} (hB : q_RB g) (hT : q_TC g st) {v1 : Int} {num : Nat → Nat} (hp : q_par g v1 num st) {j t : Nat} (hj : j < g 168 18) (ht : t ≤ g 168 2) : J_X5_arrive v1 j t st = some (e_I 1152921504606846976 (q_A g (num j) t)) := by
  have hw1 := hB.2.2.2.2.1.1
  have hf1 := hB.1.1
  refine q_of ?_
  simp only [J_X5_arrive, J_X5_arrive_67, q_g, q_b, q_let, q_ite, q_some, z32, z64, true_or, or_true, true_and, and_true]
  rcases hp with ⟨rfl, hnum⟩ | ⟨i, n, rfl, hi, hl, hn1, hn2, hnum, h135, h137⟩
  · refine ⟨by decide, fun _ => ?_, fun h => absurd rfl h⟩
    refine q_eq (s_X0_span (by omega)) ?_
    refine ⟨by decide, fun _ => ?_, fun h => absurd rfl h⟩
    rw [hnum, q_A_1 (by omega)]
    have e : st 125 (289 * (j : Int) + 17 * 0 + t) = e_I 1152921504606846976 (if t = 0 then none else q_tab g j 0 t) := by
      by_cases h0 : t = 0
      · subst h0; rw [if_pos rfl]; exact hT.2.2.2.1 j 0 0 (by omega) (by omega) (by decide) (by decide) (by decide)
      · rw [if_neg h0]; exact hT.2.2.1 j 0 t (by omega) (by omega) (by decide) (by omega) (by omega)
    have hb : e_bd 20000000000000 (if t = 0 then none else q_tab g j 0 t) := by
      split
      · exact e_bd_none
      · exact e_bd_le (by decide) (q_tab_bd hB (by omega))
    rw [e]
    refine q_eq (s_arrive_87 hB hT hb (by omega) (by omega)) ?_
    rw [q_ix_0]
  · have hrow := q_rows_isRow hB hl
    have hmb := q_many_bd n
    have hr1 := hrow.1
    have hA : ∀ c : Nat, c ≤ t → e_bd 10000000000000 (q_A g n c) := fun c hc => q_A_row hB hl (by omega)
    have hS : ∀ c : Nat, e_bd 600000010000 (q_tab g j c t) := fun c => q_tab_bd hB (by omega)
    have hM : ∀ c : Nat, c ≤ t → e_bd 20000000000000 (e_mins (fun c => e_add (q_A g n c) (q_tab g j c t)) c) := fun c hc => e_bd_mins fun i hi => e_bd_le (by decide) (e_bd_add (hA i (by omega)) (hS i))
    refine ⟨by omega, fun h => by omega, fun _ => ?_⟩
    refine q_mono (P := fun r => r = e_I 1152921504606846976 (e_mins (fun c => e_add (q_A g n c) (q_tab g j c t)) t)) ?_ ?_
    · refine q_loop (fun q => ∃ c : Nat, q.2 = (c : Int) ∧ 1 ≤ c ∧ (c ≤ t ∨ c = 1) ∧ q.1 = e_I 1152921504606846976 (e_mins (fun c => e_add (q_A g n c) (q_tab g j c t)) c)) (fun q => (17 - q.2).toNat) ⟨1, rfl, by omega, by omega, ?_⟩ (by show (17 - (1 : Int)).toNat < _; decide) ?_
      · show (1152921504606846976 : Int) = e_I _ (e_min none (e_add (q_A g n 0) _))
        rw [q_A_0 hr1]; rfl
      rintro ⟨u, v⟩ ⟨c, i1, i2, i3, i4⟩
      dsimp only at i1 i4
      subst i1
      simp only [J_X5_arrive_b26, q_g, q_b, q_let, q_ite, q_some, z32, z64, true_or, or_true, true_and, and_true]
      refine ⟨by omega, fun hlt => ⟨by omega, ?_⟩, fun hge => ?_⟩
      · refine q_eq (s_X0_span (by omega)) ?_
        rw [h137 c (by omega), hT.2.2.1 j c t (by omega) (by omega) (by omega) (by omega) (by omega), i4]
        have b1 := e_I_le (K := 1152921504606846976) (hA c (by omega)) (by decide) (by decide)
        have b2 := e_I_le (K := 1152921504606846976) (hS c) (by decide) (by decide)
        have b3 := e_I_le (K := 1152921504606846976) (hM c (by omega)) (by decide) (by decide)
        rw [e_acc (hM c (by omega)) (hA c (by omega)) (hS c) (by decide) (by decide) (by decide) (by decide) (by decide)]
        exact ⟨by omega, ⟨c + 1, by omega, by omega, by omega, rfl⟩, by omega⟩
      · by_cases h0 : t = 0
        · subst h0
          have : c = 1 := by omega
          subst this
          rw [i4]
          show e_I _ (e_min none (e_add (q_A g n 0) _)) = _
          rw [q_A_0 hr1]; rfl
        · have : c = t := by omega
          subst this
          exact i4
    · rintro r rfl
      refine ⟨by omega, fun h => by omega, fun _ => ⟨by omega, ⟨by omega, by decide, by decide⟩, ?_⟩⟩
      have hdig : (st 135 (i : Int)).tmod 10 - 1 = q_dig n (q_many n - 1) := by
        rw [h135, Int.tmod_eq_emod_of_nonneg (by omega)]
        unfold q_dig
        rw [show q_many n - 1 - (q_many n - 1) = 0 by omega]
        show _ = (n : Int) / 1 % 10 - 1
        omega
      have hdb := hrow.2 (q_many n - 1) (by omega) (by omega)
      rw [hdig]
      refine q_eq (s_arrive_87 hB hT (hM t (by omega)) (by omega) (by omega)) ?_
      rw [q_ix_s (by omega), hnum, q_A_ch hn1 hn2 (by omega)]
/-- b is the first of the least of the first n rows -/
def q_lead (g : z_St) (n : Nat) (b : Int) : Prop := (b = -1 ∧ ∀ i : Nat, i < n → q_wl g i = none) ∨ ∃ (k : Nat) (x : Int), b = (k : Int) ∧ k < n ∧ q_wl g k = some x ∧ ∀ (i : Nat) (y : Int), i < n → q_wl g i = some y → x ≤ y ∧ (i < k → x < y)
theorem q_lead_none {g : z_St} {n : Nat} {b : Int} (h : q_lead g n b) (hn : q_wl g n = none) : q_lead g (n + 1) b := by
  rcases h with ⟨rfl, h⟩ | ⟨k, x, rfl, h1, h2, h3⟩
  · refine Or.inl ⟨rfl, fun i hi => ?_⟩
    by_cases e : i = n
    · subst e; exact hn
    · exact h i (by omega)
  · refine Or.inr ⟨k, x, rfl, by omega, h2, fun i y hi hy => ?_⟩
    by_cases e : i = n
    · subst e; rw [hn] at hy; cases hy
    · exact h3 i y (by omega) hy
theorem q_lead_new {g : z_St} {n : Nat} {b x : Int} (h : q_lead g n b) (hn : q_wl g n = some x) (hb : b = -1 ∨ ∃ (k : Nat) (y : Int), b = (k : Int) ∧ q_wl g k = some y ∧ x < y) : q_lead g (n + 1) n := by
  refine Or.inr ⟨n, x, rfl, by omega, hn, fun i y hi hy => ?_⟩
  by_cases e : i = n
  · subst e; rw [hn] at hy; cases hy; exact ⟨Int.le_refl _, fun h => by omega⟩
  · rcases h with ⟨rfl, h⟩ | ⟨k, z, rfl, h1, h2, h3⟩
    · rw [h i (by omega)] at hy; cases hy
    · have h4 := (h3 i y (by omega) hy).1
      rcases hb with hb | ⟨k', y', e1, e2, e3⟩
      · omega
      · have : k = k' := by omega
        subst this
        rw [h2] at e2; cases e2
        exact ⟨by omega, fun _ => by omega⟩
theorem q_lead_old {g : z_St} {n : Nat} {x y : Int} {k : Nat} (h : q_lead g n k) (hn : q_wl g n = some x) (hk : q_wl g k = some y) (hy : y ≤ x) : q_lead g (n + 1) k := by
  rcases h with ⟨h, _⟩ | ⟨k', z, e, h1, h2, h3⟩
  · omega
  · have : k = k' := by omega
    subst this
    rw [hk] at h2; cases h2
    refine Or.inr ⟨k, y, rfl, by omega, hk, fun i y' hi hy' => ?_⟩
    by_cases e : i = n
    · subst e; rw [hn] at hy'; cases hy'; exact ⟨hy, fun h => by omega⟩
    · exact h3 i y' (by omega) hy'
/-- the first cnt rows are laid in the class's table of rows; m of them have children -/
def q_RT (g : z_St) (m cnt : Nat) (st : z_St) : Prop := st 134 5 = g 168 18 ∧ st 134 6 = (cnt : Int) ∧ cnt ≤ q_len g ∧ st 134 7 = (e_cnt (fun k => (q_wl g k).isSome) cnt : Int) ∧ q_lead g cnt (st 134 8) ∧ ∀ i n : Nat, i < cnt → (q_rows g)[i]? = some n → st 135 i = n ∧ st 136 i = e_I 1152921504606846976 (q_wl g i) ∧ (i < m → ∀ t : Nat, t ≤ g 168 2 → st 137 ((i : Int) * 17 + t) = e_I 1152921504606846976 (q_A g n t))
def q_isR (x : Int) : Prop := 134 ≤ x ∧ x ≤ 137
theorem q_lead_bd {g : z_St} {n : Nat} {b : Int} (h : q_lead g n b) : b = -1 ∨ ∃ (k : Nat) (y : Int), b = (k : Int) ∧ k < n ∧ q_wl g k = some y := by
  rcases h with ⟨rfl, _⟩ | ⟨k, x, rfl, h1, h2, _⟩
  · exact Or.inl rfl
  · exact Or.inr ⟨k, x, rfl, h1, h2⟩
/-- one row more -/
theorem s_addChildren_1 {g st : z_St} (hB : q_RB g) (hT : q_TC g st) {m : Nat} (hm : m ≤ 155) {v1 : Int} {num : Nat → Nat} {j cnt n : Nat} (hj : j < g 168 18) (hp : ∀ st', (∀ i : Int, i ≠ cnt → st' 135 i = st 135 i) → (∀ i : Int, (i < (cnt : Int) * 17 ∨ (cnt : Int) * 17 + 16 < i) → st' 137 i = st 137 i) → q_par g v1 num st')
    (hl : (q_rows g)[cnt]? = some n) (hn : n = num j) (hnm : cnt < m ↔ n < 1000) (hlast : q_dig n (q_many n - 1) = j) (h : q_RT g m cnt st) :
    q_ok (J_X5_addChildren_56 v1 (g 168 2) j n cnt st) (fun r => match r with
      | .inl s' => s'.1 = (j : Int) + 1 ∧ (∀ x, ¬ q_isR x → s'.2 x = st x) ∧ (∀ k, (k < 6 ∨ 8 < k) → s'.2 134 k = st 134 k) ∧ (∀ i : Int, i ≠ cnt → s'.2 135 i = st 135 i) ∧ (∀ i : Int, (i < (cnt : Int) * 17 ∨ (cnt : Int) * 17 + 16 < i) → s'.2 137 i = st 137 i) ∧ q_RT g m (cnt + 1) s'.2
      | .inr _ => False) := by
  have hf1 := hB.1.1
  have hw1 := hB.2.2.2.2.1.1
  have hlen := q_len_le hB
  obtain ⟨r1, r2, r3, r4, r5, r6⟩ := h
  have hcl : cnt < q_len g := (List.getElem?_eq_some_iff.mp hl).1
  have hn56 := q_rows_lt hl
  have hrow := q_rows_isRow hB hl
  have hwl : q_wl g cnt = q_wt g n := q_wl_at hl
  have hwt := q_wt_A (g := g) hrow.1 hf1.1
  have hAb := q_A_row hB hl (t := (g 168 2).toNat) (by omega)
  have hdb := q_dear_bd hB.2.2.2.2.2.2 hB.2.2.2.2.2.1 (a := (j : Int)) (b := 5) (by omega)
  have hAI := e_I_le (K := 1152921504606846976) hAb (by decide) (by decide)
  have hlead := q_lead_bd r5
  have hcc := e_cnt_le (f := fun k => (q_wl g k).isSome) cnt
  -- behind the numbers and what it reaches
  have w122 : ∀ st2 : z_St, (∀ x, x ≠ 135 → x ≠ 137 → st2 x = st x) → (∀ i : Int, st2 135 i = if i = cnt then (n : Int) else st 135 i) → (∀ i : Int, (i < (cnt : Int) * 17 ∨ (cnt : Int) * 17 + 16 < i) → st2 137 i = st 137 i) → (cnt < m → ∀ t : Nat, t ≤ g 168 2 → st2 137 ((cnt : Int) * 17 + t) = e_I 1152921504606846976 (q_A g n t)) → q_ok (J_X5_addChildren_122 v1 (g 168 2) j st2) (fun r => match r with
      | .inl s' => s'.1 = (j : Int) + 1 ∧ (∀ x, ¬ q_isR x → s'.2 x = st x) ∧ (∀ k, (k < 6 ∨ 8 < k) → s'.2 134 k = st 134 k) ∧ (∀ i : Int, i ≠ cnt → s'.2 135 i = st 135 i) ∧ (∀ i : Int, (i < (cnt : Int) * 17 ∨ (cnt : Int) * 17 + 16 < i) → s'.2 137 i = st 137 i) ∧ q_RT g m (cnt + 1) s'.2
      | .inr _ => False) := by
    intro st2 k1 k2 k3 k4
    have hT2 : q_TC g st2 := q_TC_of hT hB (fun x a b => by unfold q_isT at a; exact k1 x (by omega) (by omega))
    have hp2 := hp st2 (fun i hi => by rw [k2, if_neg hi]) k3
    have e134 : ∀ k, st2 134 k = st 134 k := fun k => by rw [k1 134 (by decide) (by decide)]
    -- what is left, whichever way
    have fin : ∀ (u7 u8 : Int) (st3 : z_St), (∀ x, x ≠ 134 → x ≠ 136 → st3 x = st2 x) → (∀ i : Int, st3 136 i = if i = cnt then e_I 1152921504606846976 (q_wl g cnt) else st2 136 i) → (∀ k, (k < 6 ∨ 8 < k) → st3 134 k = st2 134 k) → st3 134 6 = cnt → st3 134 7 = u7 → st3 134 8 = u8 → u7 = (e_cnt (fun k => (q_wl g k).isSome) (cnt + 1) : Int) → q_lead g (cnt + 1) u8 → q_ok (J_X5_addChildren_231 v1 (g 168 2) j st3) (fun r => match r with
        | .inl s' => s'.1 = (j : Int) + 1 ∧ (∀ x, ¬ q_isR x → s'.2 x = st x) ∧ (∀ k, (k < 6 ∨ 8 < k) → s'.2 134 k = st 134 k) ∧ (∀ i : Int, i ≠ cnt → s'.2 135 i = st 135 i) ∧ (∀ i : Int, (i < (cnt : Int) * 17 ∨ (cnt : Int) * 17 + 16 < i) → s'.2 137 i = st 137 i) ∧ q_RT g m (cnt + 1) s'.2
        | .inr _ => False) := by
      intro u7 u8 st3 f1 f2 f3 f4 f5 f6 f7 f8
      simp only [J_X5_addChildren_231, q_g, q_b, q_let, q_ite, q_some, z32, z64, true_or, or_true, true_and, and_true]
      have e135 : ∀ i, st3 135 i = st2 135 i := fun i => by rw [f1 135 (by decide) (by decide)]
      have e137 : ∀ i, st3 137 i = st2 137 i := fun i => by rw [f1 137 (by decide) (by decide)]
      refine ⟨fun x hx => ?_, fun k hk => ?_, fun i hi => ?_, fun i hi => ?_, ?_, ?_, hcl, ?_, ?_, fun i n' hi hn' => ⟨?_, ?_, fun him t ht => ?_⟩⟩
      · unfold q_isR at hx
        rw [q_up_row (by omega), f1 x (by omega) (by omega), k1 x (by omega) (by omega)]
      · rw [z_up_n (by omega), f3 k hk, e134]
      · rw [q_up_row (by decide), e135, k2, if_neg hi]
      · rw [q_up_row (by decide), e137, k3 i hi]
      · rw [z_up_n (by decide), f3 5 (by decide), e134]; exact r1
      · rw [z_up_at, f4]; omega
      · rw [z_up_n (by decide), f5, f7]
      · rw [z_up_n (by decide), f6]; exact f8
      · rw [q_up_row (by decide), e135, k2]
        by_cases e : (i : Int) = cnt
        · have : i = cnt := by omega
          subst this
          rw [hl] at hn'; cases hn'
          rw [if_pos rfl]
        · rw [if_neg e]; exact (r6 i n' (by omega) hn').1
      · rw [q_up_row (by decide), f2]
        by_cases e : (i : Int) = cnt
        · have : i = cnt := by omega
          subst this
          rw [if_pos rfl]
        · rw [if_neg e, k1 136 (by decide) (by decide)]; exact (r6 i n' (by omega) hn').2.1
      · rw [q_up_row (by decide), e137]
        by_cases e : i = cnt
        · subst e
          rw [hl] at hn'; cases hn'
          exact k4 him t ht
        · rw [k3 _ (by omega)]; exact (r6 i n' (by omega) hn').2.2 him t ht
    simp only [J_X5_addChildren_122, q_g, q_b, q_let, q_ite, q_some, z32, z64, true_or, or_true, true_and, and_true]
    have harr := s_X5_arrive hB hT2 hp2 (j := j) (t := (g 168 2).toNat) hj (by omega)
    rw [show (((g 168 2).toNat : Nat) : Int) = g 168 2 by omega, ← hn] at harr
    refine q_eq harr ?_
    have hwl2 : q_wl g cnt = e_add (q_A g n (g 168 2).toNat) (some (q_dear g j 5)) := by rw [hwl, hwt, hlast]
    have ecnt : ∀ b : Bool, (q_wl g cnt).isSome = b → (e_cnt (fun k => (q_wl g k).isSome) (cnt + 1)) = e_cnt (fun k => (q_wl g k).isSome) cnt + (if b = true then 1 else 0) := fun b hb => by
      subst hb; rfl
    rw [e134]
    refine ⟨by omega, fun hlt => ?_, fun hge => ?_⟩
    · obtain ⟨x, hx⟩ : ∃ x, q_A g n (g 168 2).toNat = some x := by
        cases hA : q_A g n (g 168 2).toNat with
        | none => exact absurd hA (hAI.2.2.mp hlt)
        | some x => exact ⟨x, rfl⟩
      have hxb := hAb x hx
      rw [hx] at hwl2
      have hwl3 : q_wl g cnt = some (x + q_dear g j 5) := hwl2
      refine q_eq (s_X0_toll (by omega)) ?_
      have htoll : st2 (128 + (j : Int)) (-1 + 1) = q_dear g j 5 := by
        rw [hT2.2.2.2.2 j (-1) (by omega) (by omega) (by omega) (by omega), q_ix_s (by omega), q_ix_0]
      rw [htoll, hx, e_I_some, r2]
      simp only [J_X5_addChildren_166, J_X5_addChildren_217, J_X5_addChildren_228, q_g, q_b, q_let, q_ite, q_some, z32, z64, true_or, or_true, true_and, and_true]
      have hW : ∀ i : Int, z_up st2 136 cnt (x + q_dear g j 5) 136 i = if i = cnt then e_I 1152921504606846976 (q_wl g cnt) else st2 136 i := fun i => by rw [q_up_at, hwl3, e_I_some]
      have e134' : ∀ (a b : Int) k, z_up st2 136 a b 134 k = st 134 k := fun a b k => by rw [q_up_row (by decide), e134]
      have e9 := ecnt true (by rw [hwl3]; rfl)
      rw [if_pos rfl] at e9
      have z8 : ∀ u : Int, z_up (z_up st2 136 cnt (x + q_dear g j 5)) 134 7 u 134 8 = st 134 8 := fun u => by rw [z_up_n (by decide), e134']
      have z6 : ∀ u : Int, z_up (z_up st2 136 cnt (x + q_dear g j 5)) 134 7 u 134 6 = cnt := fun u => by rw [z_up_n (by decide), e134', r2]
      have z136 : ∀ u i : Int, z_up (z_up st2 136 cnt (x + q_dear g j 5)) 134 7 u 136 i = if i = cnt then e_I 1152921504606846976 (q_wl g cnt) else st2 136 i := fun u i => by rw [q_up_row (by decide)]; exact hW i
      rw [e134']
      have fin2 : ∀ u8 : Int, q_lead g (cnt + 1) u8 → q_ok (J_X5_addChildren_231 v1 (g 168 2) j (z_up (z_up (z_up st2 136 cnt (x + q_dear g j 5)) 134 7 (st 134 7 + 1)) 134 8 u8)) (fun r => match r with
          | .inl s' => s'.1 = (j : Int) + 1 ∧ (∀ x, ¬ q_isR x → s'.2 x = st x) ∧ (∀ k, (k < 6 ∨ 8 < k) → s'.2 134 k = st 134 k) ∧ (∀ i : Int, i ≠ cnt → s'.2 135 i = st 135 i) ∧ (∀ i : Int, (i < (cnt : Int) * 17 ∨ (cnt : Int) * 17 + 16 < i) → s'.2 137 i = st 137 i) ∧ q_RT g m (cnt + 1) s'.2
          | .inr _ => False) := fun u8 h8 => by
        refine fin (st 134 7 + 1) u8 _ (fun x a b => by rw [q_up_row (by omega), q_up_row (by omega), q_up_row (by omega)]) (fun i => by rw [q_up_row (by decide)]; exact z136 _ i) (fun k hk => by rw [z_up_n (by omega), z_up_n (by omega), q_up_row (by decide)]) (by rw [z_up_n (by decide)]; exact z6 _) (by rw [z_up_n (by decide), z_up_at]) (by rw [z_up_at]) (by omega) h8
      rw [z8, z6, z136, if_pos rfl, hwl3, e_I_some]
      refine ⟨by omega, by omega, fun _ => ⟨by rcases hlead with h | ⟨k, y, h, hk, _⟩ <;> omega, fun h8 => ?_, fun h8 => ?_⟩, fun h9 => by omega⟩
      · exact q_mono (fin2 cnt (q_lead_new r5 hwl3 (Or.inl h8))) (fun r hr => by cases r <;> exact hr)
      · rcases hlead with h | ⟨k, y, hk, hkc, hky⟩
        · exact absurd h h8
        · have hyb := q_wl_bd hB k y hky
          have hkn := (List.getElem?_eq_getElem (l := q_rows g) (show k < (q_rows g).length from (show k < q_len g by omega)))
          have e136 : st2 136 (k : Int) = y := by
            rw [k1 136 (by decide) (by decide), (r6 k _ hkc hkn).2.1, hky, e_I_some]
          rw [z136, hk, if_neg (by omega), e136]
          refine ⟨by omega, by omega, by omega, fun hl9 => ?_, fun hl9 => ?_⟩
          · exact q_mono (fin2 cnt (q_lead_new r5 hwl3 (Or.inr ⟨k, y, hk, hky, hl9⟩))) (fun r hr => by cases r <;> exact hr)
          · exact q_mono (fin2 k (q_lead_old (by rw [← hk]; exact r5) hwl3 hky (by omega))) (fun r hr => by cases r <;> exact hr)
    · have hx : q_A g n (g 168 2).toNat = none := by
        apply Classical.byContradiction
        intro h9
        exact hge (hAI.2.2.mpr h9)
      rw [hx] at hwl2
      have hwl3 : q_wl g cnt = none := hwl2
      have e9 := ecnt false (by rw [hwl3]; rfl)
      rw [r2, hx, e_I_none]
      simp only [J_X5_addChildren_166, q_g, q_b, q_let, q_ite, q_some, z32, z64, true_or, or_true, true_and, and_true]
      refine ⟨by omega, by decide, fun h9 => absurd h9 (by decide), fun _ => ?_⟩
      refine q_mono (fin (st 134 7) (st 134 8) _ (fun x a b => by rw [q_up_row b]) (fun i => by rw [q_up_at, hwl3, e_I_none]) (fun k hk => by rw [q_up_row (by decide)]) (by rw [q_up_row (by decide), e134, r2]) (by rw [q_up_row (by decide), e134]) (by rw [q_up_row (by decide), e134]) (by rw [e9]; simp; exact r4) (q_lead_none r5 hwl3)) (fun r hr => by cases r <;> exact hr)
  simp only [J_X5_addChildren_56, q_g, q_b, q_let, q_ite, q_some, z32, z64, true_or, or_true, true_and, and_true]
  have y6 : z_up st 135 cnt n 134 6 = cnt := by rw [q_up_row (by decide), r2]
  have y135 : z_up st 135 cnt n 135 cnt = n := z_up_at
  rw [y6, y135]
  refine ⟨by omega, by omega, by omega, fun h1 => ⟨by omega, fun h2 => ?_, fun h2 => by omega⟩, fun h1 => ?_⟩
  · refine q_mono (P := fun st2 => (∀ x, x ≠ 137 → st2 x = z_up st 135 cnt n x) ∧ (∀ i : Int, (i < (cnt : Int) * 17 ∨ (cnt : Int) * 17 + 16 < i) → st2 137 i = st 137 i) ∧ ∀ t : Nat, t ≤ g 168 2 → st2 137 ((cnt : Int) * 17 + t) = e_I 1152921504606846976 (q_A g n t)) ?_ ?_
    · refine q_loop (fun q => ∃ t : Nat, q.1 = (t : Int) ∧ t ≤ g 168 2 + 1 ∧ (∀ x, x ≠ 137 → q.2 x = z_up st 135 cnt n x) ∧ (∀ i : Int, (i < (cnt : Int) * 17 ∨ (cnt : Int) * 17 + 16 < i) → q.2 137 i = st 137 i) ∧ ∀ t' : Nat, t' < t → q.2 137 ((cnt : Int) * 17 + t') = e_I 1152921504606846976 (q_A g n t')) (fun q => (18 - q.1).toNat) ⟨0, rfl, by omega, fun _ _ => rfl, fun i _ => by show z_up st 135 cnt n 137 i = _; rw [q_up_row (by decide)], fun t' h => by omega⟩ (by show (18 - (0 : Int)).toNat < _; decide) ?_
      rintro ⟨v, st2⟩ ⟨t, i1, i2, i3, i4, i5⟩
      dsimp only at i1 i2 i3 i4 i5
      subst i1
      simp only [J_X5_addChildren_b85, q_g, q_b, q_let, q_ite, q_some, z32, z64, true_or, or_true, true_and, and_true]
      refine ⟨by omega, fun hx => ⟨i3, i4, fun t' ht' => i5 t' (by omega)⟩, fun hx => ?_⟩
      have hT2 : q_TC g st2 := q_TC_of hT hB (fun x a b => by unfold q_isT at a; rw [i3 x (by omega), q_up_row (by omega)])
      have hp2 := hp st2 (fun i hi => by rw [i3 135 (by decide), q_up_at, if_neg hi]) i4
      refine q_eq (s_X5_arrive hB hT2 hp2 (j := j) (t := t) hj (by omega)) ?_
      rw [i3 134 (by decide), y6, ← hn]
      refine ⟨by omega, ⟨t + 1, by omega, by omega, fun x hx9 => by rw [q_up_row hx9]; exact i3 x hx9, fun i hi => ?_, fun t' ht' => ?_⟩, by omega⟩
      · rw [q_up_at, if_neg (by omega)]; exact i4 i hi
      · rw [q_up_at]
        by_cases e : t' = t
        · subst e; rw [if_pos rfl]
        · rw [if_neg (by omega)]; exact i5 t' (by omega)
    · rintro st2 ⟨a1, a2, a3⟩
      exact q_mono (w122 st2 (fun x a b => by rw [a1 x b, q_up_row a]) (fun i => by rw [a1 135 (by decide), q_up_at]) a2 (fun _ => a3)) (fun r hr => by cases r <;> exact hr)
  · exact q_mono (w122 _ (fun x a b => q_up_row a) (fun i => q_up_at) (fun i _ => by rw [q_up_row (by decide)]) (fun h9 => by clear hlead; omega)) (fun r hr => by cases r <;> exact hr)
