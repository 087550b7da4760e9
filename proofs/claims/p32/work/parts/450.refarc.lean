-- THE REFERENCE'S arc
theorem s_arc_32 {g st : z_St} (hS : q_same g st) (hB : q_RB g) (h : q_slOK g (fun _ _ _ => True) st) {beam what arc : Int} (hb : z64 beam) (ha : -1 ≤ arc ∧ arc ≤ 2147483647) (hw : z32 what) :
    q_ok (J_X12_arc_32 beam what arc st) (fun r => (∀ x, x ≠ 168 → r.2 x = st x) ∧ (∀ j, j ≠ 0 → r.2 168 j = st 168 j) ∧ (∀ i, q_arcAt g beam arc i → r.2 168 0 = (if 0 ≤ what ∧ what ≤ 3 then 0 else 2) ∧ (0 ≤ what ∧ what ≤ 3 → r.1 = q_tell g what i)) ∧ ((∀ i, ¬ q_arcAt g beam arc i) → r.2 168 0 = 1)) := by
  have hw1 := hB.2.2.2.2.1.1
  have hf1 := hB.1.1
  have hw2 : -2147483648 ≤ what ∧ what ≤ 2147483647 := hw
  have e18 := hS.2 18 (by decide) (by decide)
  have e2 := hS.2 2 (by decide) (by decide)
  -- the end of it
  have w190 : ∀ its s0 : Int, ((its = -1 ∧ s0 = 1) ∨ ((s0 = 0 ∨ s0 = 2) ∧ 0 ≤ its ∧ its < 1445 ∧ (s0 = 0 → (0 ≤ what ∧ what ≤ 3) ∧ ∀ i : Nat, its = i → q_P3 g beam i = true))) → q_ok (J_X12_arc_190 what its s0 st) (fun r => (∀ x, x ≠ 168 → r.2 x = st x) ∧ (∀ j, j ≠ 0 → r.2 168 j = st 168 j) ∧ r.2 168 0 = s0 ∧ (s0 = 0 → ∀ i : Nat, its = i → r.1 = q_tell g what i)) := by
    intro its s0 hh
    simp only [J_X12_arc_190, J_X12_arc_270, q_g, q_b, q_let, q_ite, q_some, z32, z64, true_or, or_true, true_and, and_true]
    by_cases h0 : s0 = 0
    · have hh2 : (0 ≤ its ∧ its < 1445) ∧ (0 ≤ what ∧ what ≤ 3) ∧ ∀ i : Nat, its = i → q_P3 g beam i = true := by
        rcases hh with ⟨_, h9⟩ | ⟨_, h1, h2, h3⟩
        · omega
        · exact ⟨⟨h1, h2⟩, (h3 h0).1, (h3 h0).2⟩
      clear hh
      obtain ⟨hh1, hh3, hh4⟩ := hh2
      subst h0
      obtain ⟨i, rfl⟩ : ∃ i : Nat, its = i := ⟨its.toNat, by omega⟩
      have hP := q_P3_iff.mp (hh4 i rfl)
      obtain ⟨x, hx⟩ := q_one_some hP.2.2.2
      have hsl := h (i % 5) (i / 85) (i / 5 % 17) (by omega) (by omega) (by omega) trivial
      rw [hx, e_I_some] at hsl
      refine q_eq s_holds_0 ?_
      have t1 : (i : Int).tmod 5 = ((i % 5 : Nat) : Int) := by rw [Int.tmod_eq_emod_of_nonneg (by omega)]; omega
      have t2 : (i : Int).tdiv 85 = ((i / 85 : Nat) : Int) := by rw [Int.tdiv_eq_ediv_of_nonneg (by omega)]; omega
      have t3 : ((i : Int).tdiv 5).tmod 17 = ((i / 5 % 17 : Nat) : Int) := by rw [Int.tdiv_eq_ediv_of_nonneg (by omega), Int.tmod_eq_emod_of_nonneg (by omega)]; omega
      have t4 : (i : Int).tdiv 5 = ((i / 5 : Nat) : Int) := by rw [Int.tdiv_eq_ediv_of_nonneg (by omega)]; omega
      rw [t1, t2, t3, t4]
      have up1 : ∀ x, x ≠ 168 → z_up st 168 0 0 x = st x := fun x hx => q_up_row hx
      have up2 : ∀ j, j ≠ 0 → z_up st 168 0 0 168 j = st 168 j := fun j hj => z_up_n (by omega)
      have up3 : z_up st 168 0 0 168 0 = 0 := z_up_at
      dsimp only
      unfold q_tell
      refine ⟨by decide, fun _ => ⟨by omega, fun k => ⟨by omega, by omega, up1, up2, up3, fun _ j hj => ?_⟩, fun k => ⟨by omega, fun k2 => ⟨by omega, by omega, up1, up2, up3, fun _ j hj => ?_⟩, fun k2 => ⟨by omega, fun k3 => ⟨by omega, by omega, by omega, up1, up2, up3, fun _ j hj => ?_⟩, fun k3 => ⟨by omega, by omega, by omega, by omega, q_eq s_X12_span ⟨by omega, up1, up2, up3, fun _ j hj => ?_⟩⟩⟩⟩⟩, fun h9 => absurd rfl h9⟩
      · have : j = i := by omega
        subst this
        rw [if_pos k]
      · have : j = i := by omega
        subst this
        rw [if_neg k, if_pos k2]
      · have : j = i := by omega
        subst this
        rw [if_neg k, if_neg k2, if_pos k3]
      · have : j = i := by omega
        subst this
        rw [if_neg k, if_neg k2, if_neg k3, q_up_row (by decide), hsl, hx, e_I_some]
    · refine q_eq (s_holds_p (by rcases hh with ⟨_, h9⟩ | ⟨h9, _⟩ <;> omega)) ?_
      dsimp only
      refine ⟨by decide, fun h9 => absurd h9 (by decide), fun _ => ⟨fun x hx => q_up_row hx, fun j hj => z_up_n (by omega), z_up_at, fun h9 => absurd h9 h0⟩⟩
  simp only [J_X12_arc_32, q_g, q_b, q_let, q_ite, q_some, z32, z64, true_or, or_true, true_and, and_true]
  refine q_mono (P := fun (r : Int) => (r = -1 ∧ ∀ i, ¬ q_arcAt g beam arc i) ∨ ∃ i : Nat, r = i ∧ q_arcAt g beam arc i) ?_ ?_
  · refine q_loop (fun q => ∃ k : Nat, q.2.2 = (k : Int) ∧ k ≤ 1445 ∧ (-1 ≤ q.1 ∧ q.1 ≤ arc) ∧ -1 ≤ q.2.1 ∧ q.2.1 < 1445 ∧ (0 ≤ q.1 → q.2.1 = -1 ∧ q.1 = arc - (e_cnt (q_P3 g beam) k : Int)) ∧ (q.1 < 0 → (q.2.1 = -1 ∧ ∀ i, ¬ q_arcAt g beam arc i) ∨ ∃ i : Nat, q.2.1 = i ∧ q_arcAt g beam arc i)) (fun q => (1446 - q.2.2).toNat) ⟨0, rfl, by omega, ⟨ha.1, Int.le_refl _⟩, Int.le_refl _, by show (-1 : Int) < 1445; decide, fun h => ⟨rfl, by show arc = arc - ((0 : Nat) : Int); omega⟩, fun h => Or.inl ⟨rfl, fun i hi => by have := hi.2.2; dsimp only at h; omega⟩⟩ (by show (1446 - (0 : Int)).toNat < _; decide) ?_
    rintro ⟨left, its, v⟩ ⟨k, i1, i2, i3, i4, i5, i6, i7⟩
    dsimp only at i1 i3 i4 i5 i6 i7
    subst i1
    have t1 : (k : Int).tmod 5 = ((k % 5 : Nat) : Int) := by rw [Int.tmod_eq_emod_of_nonneg (by omega)]; omega
    have t2 : (k : Int).tdiv 85 = ((k / 85 : Nat) : Int) := by rw [Int.tdiv_eq_ediv_of_nonneg (by omega)]; omega
    have t3 : ((k : Int).tdiv 5).tmod 17 = ((k / 5 % 17 : Nat) : Int) := by rw [Int.tdiv_eq_ediv_of_nonneg (by omega), Int.tmod_eq_emod_of_nonneg (by omega)]; omega
    have t4 : (k : Int).tdiv 5 = ((k / 5 : Nat) : Int) := by rw [Int.tdiv_eq_ediv_of_nonneg (by omega)]; omega
    simp only [J_X12_arc_b40, J_X12_arc_118, q_g, q_b, q_let, q_ite, q_some, z32, z64, true_or, or_true, true_and, and_true]
    rw [t1, t2, t3, t4, e18, e2]
    have w119 : ∀ s0 : Int, k < 1445 → 0 ≤ left → (s0 = if q_P3 g beam k = true then 1 else 0) → q_ok (J_X12_arc_119 beam what left its k s0 st) (fun r => match r with
        | .inl s' => (∃ k' : Nat, s'.2.2 = (k' : Int) ∧ k' ≤ 1445 ∧ (-1 ≤ s'.1 ∧ s'.1 ≤ arc) ∧ -1 ≤ s'.2.1 ∧ s'.2.1 < 1445 ∧ (0 ≤ s'.1 → s'.2.1 = -1 ∧ s'.1 = arc - (e_cnt (q_P3 g beam) k' : Int)) ∧ (s'.1 < 0 → (s'.2.1 = -1 ∧ ∀ i, ¬ q_arcAt g beam arc i) ∨ ∃ i : Nat, s'.2.1 = i ∧ q_arcAt g beam arc i)) ∧ (1446 - s'.2.2).toNat < (1446 - (k : Int)).toNat
        | .inr r => (r = -1 ∧ ∀ i, ¬ q_arcAt g beam arc i) ∨ ∃ i : Nat, r = i ∧ q_arcAt g beam arc i) := by
      intro s0 hk hl hs0
      have i6' := i6 hl
      simp only [J_X12_arc_119, J_X12_arc_136, J_X12_arc_138, J_X12_arc_152, q_g, q_b, q_let, q_ite, q_some, z32, z64, true_or, or_true, true_and, and_true]
      by_cases hP : q_P3 g beam k = true
      · rw [if_pos hP] at hs0
        have es := e_cnt_s hP
        subst hs0
        refine ⟨by decide, fun h9 => absurd h9 (by decide), fun _ => ⟨by omega, fun hl0 => ⟨by decide, fun h9 => absurd h9 (by decide), fun _ => ⟨⟨k + 1, by omega, by omega, by omega, by omega, by omega, fun h9 => by omega, fun _ => Or.inr ⟨k, rfl, hk, hP, by omega⟩⟩, by omega⟩⟩, fun hl0 => ⟨by decide, fun h9 => absurd h9 (by decide), fun _ => ⟨⟨k + 1, by omega, by omega, by omega, by omega, by omega, fun h9 => ⟨i6'.1, by omega⟩, fun h9 => by omega⟩, by omega⟩⟩⟩⟩
      · rw [if_neg hP] at hs0
        have es := e_cnt_s0 hP
        subst hs0
        refine ⟨by decide, fun _ => ⟨by decide, fun _ => ⟨⟨k + 1, by omega, by omega, by omega, by omega, by omega, fun h9 => ⟨i6'.1, by omega⟩, fun h9 => by omega⟩, by omega⟩, fun h9 => by first | exact absurd rfl h9 | exact absurd trivial h9⟩, fun h9 => by first | exact absurd rfl h9 | exact absurd trivial h9⟩
    have z : k < 1445 → 0 ≤ left → ¬ (k % 5 < (g 168 18).toNat ∧ k / 5 % 17 ≤ (g 168 2).toNat ∧ k / 85 < k / 5 % 17) → q_ok (J_X12_arc_119 beam what left its k 0 st) (fun r => match r with
        | .inl s' => (∃ k' : Nat, s'.2.2 = (k' : Int) ∧ k' ≤ 1445 ∧ (-1 ≤ s'.1 ∧ s'.1 ≤ arc) ∧ -1 ≤ s'.2.1 ∧ s'.2.1 < 1445 ∧ (0 ≤ s'.1 → s'.2.1 = -1 ∧ s'.1 = arc - (e_cnt (q_P3 g beam) k' : Int)) ∧ (s'.1 < 0 → (s'.2.1 = -1 ∧ ∀ i, ¬ q_arcAt g beam arc i) ∨ ∃ i : Nat, s'.2.1 = i ∧ q_arcAt g beam arc i)) ∧ (1446 - s'.2.2).toNat < (1446 - (k : Int)).toNat
        | .inr r => (r = -1 ∧ ∀ i, ¬ q_arcAt g beam arc i) ∨ ∃ i : Nat, r = i ∧ q_arcAt g beam arc i) := fun hk hl hno => w119 0 hk hl (by rw [q_P3_no hno]; rfl)
    refine ⟨by omega, fun hk => ⟨by omega, fun hl => i7 hl, fun hl => ⟨by omega, by omega, by omega, by omega, by omega, fun hc1 => ⟨by omega, fun hc2 => ?_, fun hc2 => ⟨by omega, fun hc3 => ?_, fun hc3 => ?_⟩⟩, fun hc1 => ?_⟩⟩, fun hk => ?_⟩
    · exact q_mono (z (by omega) (by omega) (by omega)) (fun r hr => by cases r <;> exact hr)
    · have hq := q_one_bd (g := g) (beam := beam) (w := k % 5) (f := k / 85) (t := k / 5 % 17)
      refine q_eq (s_X12_isArc hB h hb (w := k % 5) (f := k / 85) (t := k / 5 % 17) (by omega) (by omega) (by omega)) ?_
      have hP : q_P3 g beam k = true ↔ q_one g beam (k % 5) (k / 85) (k / 5 % 17) = 1 := by
        rw [q_P3_iff]
        exact ⟨fun k => k.2.2.2, fun k => ⟨by omega, by omega, by omega, k⟩⟩
      refine ⟨by omega, fun h0 => ?_, fun h0 => ?_⟩
      · exact q_mono (w119 0 (by omega) (by omega) (by rw [if_neg (fun k9 => by have := hP.mp k9; omega)])) (fun r hr => by cases r <;> exact hr)
      · exact q_mono (w119 1 (by omega) (by omega) (by rw [if_pos (hP.mpr (by omega))])) (fun r hr => by cases r <;> exact hr)
    · exact q_mono (z (by omega) (by omega) (by omega)) (fun r hr => by cases r <;> exact hr)
    · exact q_mono (z (by omega) (by omega) (by omega)) (fun r hr => by cases r <;> exact hr)
    · have e : k = 1445 := by omega
      by_cases hl : left < 0
      · exact i7 hl
      · have := i6 (by omega)
        refine Or.inl ⟨this.1, fun i hi => ?_⟩
        have h8 := e_cnt_le2 (f := q_P3 g beam) (a := i + 1) (b := 1445) hi.1
        rw [e_cnt_s hi.2.1] at h8
        have h7 := hi.2.2
        rw [e] at this
        omega
  · intro r hr
    have hr32 : -1 ≤ r ∧ r < 1445 := by
      rcases hr with ⟨h, _⟩ | ⟨i, h, h2⟩
      · omega
      · have := h2.1; omega
    refine ⟨by clear hr; omega, fun hneg => ?_, fun hpos => ⟨hw, ?_⟩⟩
    · rcases hr with ⟨h1, h2⟩ | ⟨i, h1, h2⟩
      · refine q_mono (w190 r 1 (Or.inl ⟨h1, rfl⟩)) ?_
        rintro q ⟨a1, a2, a3, a4⟩
        exact ⟨a1, a2, fun i hi => absurd hi (h2 i), fun _ => a3⟩
      · omega
    · rcases hr with ⟨h1, h2⟩ | ⟨i, h1, h2⟩
      · omega
      · refine q_eq (s_X12_in (by omega)) ?_
        refine ⟨by unfold q_in; split <;> decide, fun hin => ?_, fun hin => ?_⟩
        · have hin2 := q_in_0' hin
          refine q_mono (w190 r 2 (Or.inr ⟨Or.inr rfl, by omega, by omega, fun h9 => absurd h9 (by decide)⟩)) ?_
          rintro q ⟨a1, a2, a3, a4⟩
          exact ⟨a1, a2, fun j hj => ⟨by rw [if_neg hin2]; exact a3, fun h9 => absurd h9 hin2⟩, fun h9 => absurd h2 (h9 i)⟩
        · have hin2 := q_in_n0 hin
          refine q_mono (w190 r 0 (Or.inr ⟨Or.inl rfl, by omega, by omega, fun _ => ⟨hin2, fun j hj => by
            have : j = i := by omega
            subst this
            exact h2.2.1⟩⟩)) ?_
          rintro q ⟨a1, a2, a3, a4⟩
          refine ⟨a1, a2, fun j hj => ⟨by rw [if_pos hin2]; exact a3, fun _ => ?_⟩, fun h9 => absurd h2 (h9 i)⟩
          have : j = i := q_arcAt_uniq hj h2
          subst this
          exact a4 rfl j h1
theorem s_X12_arc {g st0 : z_St} (hS : q_same g st0) (hB : q_RB g) {x1 x3 x4 : Int} (hx : z64 x1) (h3 : z32 x3) (h4 : z32 x4) : q_ok (J_X12_arc x1 x3 x4 st0) (fun r => q_K g st0 r.2 ∧ (x1 < 0 → r.2 168 0 = 2) ∧ (0 ≤ x1 → (∀ i, q_arcAt g x1 x3 i → r.2 168 0 = (if 0 ≤ x4 ∧ x4 ≤ 3 then 0 else 2) ∧ (0 ≤ x4 ∧ x4 ≤ 3 → r.1 = q_tell g x4 i)) ∧ ((∀ i, ¬ q_arcAt g x1 x3 i) → r.2 168 0 = 1))) := by
  have hlen := q_len_le hB
  have hx2 : -9223372036854775808 ≤ x1 ∧ x1 ≤ 9223372036854775807 := hx
  have h32 : -2147483648 ≤ x3 ∧ x3 ≤ 2147483647 := h3
  simp only [J_X12_arc, J_X12_arc_31, q_g, q_b, q_let, q_ite, q_some, z32, z64, true_or, or_true, true_and, and_true]
  refine ⟨by omega, fun h => ?_, fun h => ?_⟩
  · refine q_eq (s_holds_p (by decide)) ?_
    dsimp only
    exact ⟨q_K_of hS (fun x a => q_up_row (by omega)) (fun j a b => z_up_n (by omega)), fun _ => z_up_at, fun h9 => by omega⟩
  · refine q_mono (s_X12_laysArcs hS hB) ?_
    rintro ⟨b, st⟩ ⟨a1, a2, a3, a4⟩
    dsimp only at a1 a2 a3 a4 ⊢
    have hS1 : q_same g st := ⟨fun x p q => (a1 x (by omega)).trans (hS.1 x p q), fun j p q => (a2 j (by omega)).trans (hS.2 j p q)⟩
    have hfl := q_bw_flag a3
    have fin : ∀ left : Int, (-1 ≤ left ∧ left ≤ 2147483647) → (∀ i, q_arcAt g x1 x3 i ↔ q_arcAt g x1 left i) → q_ok (J_X12_arc_32 x1 x4 left st) (fun r => q_K g st0 r.2 ∧ (x1 < 0 → r.2 168 0 = 2) ∧ (0 ≤ x1 → (∀ i, q_arcAt g x1 x3 i → r.2 168 0 = (if 0 ≤ x4 ∧ x4 ≤ 3 then 0 else 2) ∧ (0 ≤ x4 ∧ x4 ≤ 3 → r.1 = q_tell g x4 i)) ∧ ((∀ i, ¬ q_arcAt g x1 x3 i) → r.2 168 0 = 1))) := by
      intro left hl hiff
      refine q_mono (s_arc_32 hS1 hB a4 hx hl h4) ?_
      rintro r ⟨c1, c2, c3, c4⟩
      refine ⟨q_K_of hS (fun x p => by rw [c1 x (by omega)]; exact a1 x (by omega)) (fun j p q => by rw [c2 j (by omega)]; exact a2 j (by omega)), fun h9 => absurd h9 h, fun _ => ⟨fun i hi => c3 i ((hiff i).mp hi), fun h9 => c4 fun i hi => h9 i ((hiff i).mpr hi)⟩⟩
    refine ⟨by omega, fun hb => ?_, fun hb => ⟨h3, fun hneg => ?_, fun hpos => ?_⟩⟩
    · have hn := (hfl.1 hb).2
      have hno : ∀ arc i, ¬ q_arcAt g x1 arc i := fun arc i hi => by
        have hP := q_P3_iff.mp hi.2.1
        have := q_one_none hB hn (beam := x1) (w := i % 5) (f := i / 85) (t := i / 5 % 17) (by omega) (by omega) (by omega)
        omega
      exact fin (-1) (by decide) (fun i => ⟨fun h9 => absurd h9 (hno _ i), fun h9 => absurd h9 (hno _ i)⟩)
    · exact fin (-1) (by decide) (fun i => ⟨fun h9 => by have := h9.2.2; omega, fun h9 => by have := h9.2.2; omega⟩)
    · exact fin x3 (by omega) (fun i => Iff.rfl)
