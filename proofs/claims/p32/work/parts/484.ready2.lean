theorem q_INV_K {g a b : z_St} (h : q_INV g a) (k : q_K g a b) : q_INV g b := by
  obtain ⟨hS, hB, hC, hT, hR, hL, hP, hptr⟩ := h
  have e : ∀ x, x < 168 → b x = a x := fun x hx => k.1 x (Or.inl hx)
  refine ⟨k.2, hB, q_C_D hC (fun x p q r => e x (by omega)), ?_, ?_, ?_, ?_, ?_⟩
  · rcases hT with h | ⟨h1, h2⟩
    · exact Or.inl (by rw [e 99 (by decide)]; exact h)
    · exact Or.inr ⟨by rw [e 99 (by decide)]; exact h1, q_TC_of h2 hB (fun x p q => by unfold q_isT at p; exact e x (by omega))⟩
  · rcases hR with h | ⟨h1, h2, h3⟩
    · exact Or.inl (by rw [e 134 (by decide)]; exact h)
    · refine Or.inr ⟨by rw [e 134 (by decide)]; exact h1, q_RC_of h2 (fun x p q j _ => by rw [e x (by omega)]), ?_⟩
      rcases h3 with h3 | ⟨h3, h4⟩
      · exact Or.inl (by rw [e 134 (by decide)]; exact h3)
      · exact Or.inr ⟨by rw [e 134 (by decide)]; exact h3, q_ord_of h4 ⟨by rw [e 134 (by decide)], by rw [e 134 (by decide)]⟩ ⟨e 138 (by decide), e 139 (by decide)⟩⟩
  · rcases hL with h | ⟨h1, h2⟩
    · exact Or.inl (by rw [e 144 (by decide)]; exact h)
    · exact Or.inr ⟨by rw [e 144 (by decide)]; exact h1, q_LC_of h2 ⟨by rw [e 144 (by decide)], by rw [e 144 (by decide)]⟩ (e 145 (by decide))⟩
  · rcases hP with h | ⟨h1, h2⟩
    · exact Or.inl (by rw [e 148 (by decide)]; exact h)
    · exact Or.inr ⟨by rw [e 148 (by decide)]; exact h1, fun b' n hb => q_pC_of (h2 b' n hb) (fun x p q => e x (by omega))⟩
  · rw [e 134 (by decide)]; exact hptr
theorem q_INV_199 {g a : z_St} {j v : Int} (h : q_INV g a) : q_INV g (z_up a 199 j v) := by
  obtain ⟨hS, hB, hC, hT, hR, hL, hP, hptr⟩ := h
  have e : ∀ x, x < 168 → z_up a 199 j v x = a x := fun x hx => q_up_row (by omega)
  have hS2 : q_same g (z_up a 199 j v) := q_same_up hS (by omega)
  refine ⟨hS2, hB, q_C_D hC (fun x p q r => e x (by omega)), ?_, ?_, ?_, ?_, ?_⟩
  · rcases hT with h | ⟨h1, h2⟩
    · exact Or.inl (by rw [e 99 (by decide)]; exact h)
    · exact Or.inr ⟨by rw [e 99 (by decide)]; exact h1, q_TC_of h2 hB (fun x p q => by unfold q_isT at p; exact e x (by omega))⟩
  · rcases hR with h | ⟨h1, h2, h3⟩
    · exact Or.inl (by rw [e 134 (by decide)]; exact h)
    · refine Or.inr ⟨by rw [e 134 (by decide)]; exact h1, q_RC_of h2 (fun x p q j _ => by rw [e x (by omega)]), ?_⟩
      rcases h3 with h3 | ⟨h3, h4⟩
      · exact Or.inl (by rw [e 134 (by decide)]; exact h3)
      · exact Or.inr ⟨by rw [e 134 (by decide)]; exact h3, q_ord_of h4 ⟨by rw [e 134 (by decide)], by rw [e 134 (by decide)]⟩ ⟨e 138 (by decide), e 139 (by decide)⟩⟩
  · rcases hL with h | ⟨h1, h2⟩
    · exact Or.inl (by rw [e 144 (by decide)]; exact h)
    · exact Or.inr ⟨by rw [e 144 (by decide)]; exact h1, q_LC_of h2 ⟨by rw [e 144 (by decide)], by rw [e 144 (by decide)]⟩ (e 145 (by decide))⟩
  · rcases hP with h | ⟨h1, h2⟩
    · exact Or.inl (by rw [e 148 (by decide)]; exact h)
    · exact Or.inr ⟨by rw [e 148 (by decide)]; exact h1, fun b' n hb => q_pC_of (h2 b' n hb) (fun x p q => e x (by omega))⟩
  · rw [e 134 (by decide)]; exact hptr
/-- cells that nothing is kept in -/
def q_free (x : Int) : Prop := (140 ≤ x ∧ x ≤ 143) ∨ (156 ≤ x ∧ x ≤ 167) ∨ x = 199
theorem q_INV_mv {g a b : z_St} (h : q_INV g a) (k : ∀ x, ¬ q_free x → b x = a x) : q_INV g b := by
  obtain ⟨hS, hB, hC, hT, hR, hL, hP, hptr⟩ := h
  have e : ∀ x, (x < 140 ∨ (143 < x ∧ x < 156) ∨ (167 < x ∧ x < 199)) → b x = a x := fun x hx => k x (by unfold q_free; omega)
  refine ⟨q_same_of hS (fun x p q => e x (by omega)), hB, q_C_D hC (fun x p q r => e x (by omega)), ?_, ?_, ?_, ?_, ?_⟩
  · rcases hT with h | ⟨h1, h2⟩
    · exact Or.inl (by rw [e 99 (by decide)]; exact h)
    · exact Or.inr ⟨by rw [e 99 (by decide)]; exact h1, q_TC_of h2 hB (fun x p q => by unfold q_isT at p; exact e x (by omega))⟩
  · rcases hR with h | ⟨h1, h2, h3⟩
    · exact Or.inl (by rw [e 134 (by decide)]; exact h)
    · refine Or.inr ⟨by rw [e 134 (by decide)]; exact h1, q_RC_of h2 (fun x p q j _ => by rw [e x (by omega)]), ?_⟩
      rcases h3 with h3 | ⟨h3, h4⟩
      · exact Or.inl (by rw [e 134 (by decide)]; exact h3)
      · exact Or.inr ⟨by rw [e 134 (by decide)]; exact h3, q_ord_of h4 ⟨by rw [e 134 (by decide)], by rw [e 134 (by decide)]⟩ ⟨e 138 (by decide), e 139 (by decide)⟩⟩
  · rcases hL with h | ⟨h1, h2⟩
    · exact Or.inl (by rw [e 144 (by decide)]; exact h)
    · exact Or.inr ⟨by rw [e 144 (by decide)]; exact h1, q_LC_of h2 ⟨by rw [e 144 (by decide)], by rw [e 144 (by decide)]⟩ (e 145 (by decide))⟩
  · rcases hP with h | ⟨h1, h2⟩
    · exact Or.inl (by rw [e 148 (by decide)]; exact h)
    · exact Or.inr ⟨by rw [e 148 (by decide)]; exact h1, fun b' n hb => q_pC_of (h2 b' n hb) (fun x p q => e x (by omega))⟩
  · rw [e 134 (by decide)]; exact hptr
theorem s_readyLattice {g st0 : z_St} (h : q_INV g st0) : q_ok (J_X11_readyLattice st0) (fun st => q_INV g st ∧ q_LC g st ∧ q_cl st0 st ∧ ∀ x, 148 ≤ x → st x = st0 x) := by
  simp only [J_X11_readyLattice, J_X11_readyLattice_46, q_g, q_b, q_let, q_ite, q_some, z32, z64, true_or, or_true, true_and, and_true]
  refine q_mono (s_readyRows h) ?_
  rintro st1 ⟨hI, hTC, hRC, hcl, h1349, hfr⟩
  obtain ⟨hS, hB, hC, hT, hR, hL, hP, hptr⟩ := hI
  have hfr2 : ∀ x, 148 ≤ x → st1 x = st0 x := fun x hx => hfr x (by unfold q_isT; omega) (by unfold q_isR; omega)
  have h01 : st1 144 5 = 0 ∨ st1 144 5 = 1 := by
    rcases hL with h | ⟨h, _⟩
    · exact Or.inl h
    · exact Or.inr h
  refine ⟨by omega, fun h0 => ?_, fun h0 => ?_⟩
  · obtain ⟨o, ho, hle⟩ := s_X5_leastWeight hB hRC
    rw [q_bw_least ho] at hle
    refine q_eq hle ?_
    rw [hC.2.2.2.2.1.1, hC.1.1]
    refine q_mono (s_X3_fill hB hTC) ?_
    rintro st2 ⟨b1, b2, b3⟩
    have hcl2 : q_cl st1 st2 := ⟨fun x hx => b1 x (by omega), fun x p q r => b1 x (by omega)⟩
    refine ⟨⟨q_same_cl hS hcl2, hB, q_C_D hC hcl2.2, ?_, ?_, Or.inr ⟨b3, b2⟩, ?_, ?_⟩, b2, q_cl_trans hcl hcl2, fun x hx => (b1 x (by omega)).trans (hfr2 x hx)⟩
    · rcases hT with h | ⟨h1, h2⟩
      · exact Or.inl (by rw [b1 99 (by decide)]; exact h)
      · exact Or.inr ⟨by rw [b1 99 (by decide)]; exact h1, q_TC_of h2 hB (fun x p q => by unfold q_isT at p; exact b1 x (by omega))⟩
    · rcases hR with h | ⟨h1, h2, h3⟩
      · exact Or.inl (by rw [b1 134 (by decide)]; exact h)
      · refine Or.inr ⟨by rw [b1 134 (by decide)]; exact h1, q_RC_of h2 (fun x p q j _ => by rw [b1 x (by omega)]), ?_⟩
        rcases h3 with h3 | ⟨h3, h4⟩
        · exact Or.inl (by rw [b1 134 (by decide)]; exact h3)
        · exact Or.inr ⟨by rw [b1 134 (by decide)]; exact h3, q_ord_of h4 ⟨by rw [b1 134 (by decide)], by rw [b1 134 (by decide)]⟩ ⟨b1 138 (by decide), b1 139 (by decide)⟩⟩
    · rcases hP with h | ⟨h1, h2⟩
      · exact Or.inl (by rw [b1 148 (by decide)]; exact h)
      · exact Or.inr ⟨by rw [b1 148 (by decide)]; exact h1, fun b' n hb => q_pC_of (h2 b' n hb) (fun x p q => b1 x (by omega))⟩
    · rw [b1 134 (by decide)]; exact hptr
  · have hLC : q_LC g st1 := by
      rcases hL with k | ⟨_, k⟩
      · omega
      · exact k
    exact ⟨⟨hS, hB, hC, hT, hR, hL, hP, hptr⟩, hLC, hcl, hfr2⟩
theorem q_rows_many {g : z_St} (hB : q_RB g) {b n : Nat} (h : q_bestRow g b n) : 1 ≤ q_many n := (q_rows_isRow hB h.1).1
theorem s_readyTrack {g st0 : z_St} (h : q_INV g st0) (hn : q_bw g ≠ none) : q_ok (J_X11_readyTrack st0) (fun st => q_INV g st ∧ (∀ b n : Nat, q_bestRow g b n → q_pC g n (q_many n).toNat st) ∧ q_cl st0 st) := by
  simp only [J_X11_readyTrack, J_X11_readyTrack_55, q_g, q_b, q_let, q_ite, q_some, z32, z64, true_or, or_true, true_and, and_true]
  refine q_mono (s_readyRows h) ?_
  rintro st1 ⟨hI, hTC, hRC, hcl, h1349, hfr⟩
  obtain ⟨hS, hB, hC, hT, hR, hL, hP, hptr⟩ := hI
  have h01 : st1 148 3 = 0 ∨ st1 148 3 = 1 := by
    rcases hP with h | ⟨h, _⟩
    · exact Or.inl h
    · exact Or.inr h
  refine ⟨by omega, fun h0 => ?_, fun h0 => ?_⟩
  · obtain ⟨b, n, hb, hnum⟩ := s_number0 hB hRC hn
    refine q_eq hnum ?_
    dsimp only
    refine q_mono (s_X6_read (by decide) (q_rows_many hB hb)) ?_
    rintro st2 ⟨b1, b2, b3⟩
    have hC2 : q_C g st2 := q_C_D hC (fun x p q r => b1 x (by omega) (by omega))
    have hTC2 : q_TC g st2 := q_TC_of hTC hB (fun x a b => by unfold q_isT at a; exact b1 x (by omega) (by omega))
    rw [hC2.1.1]
    refine q_mono (s_X10_fill hC2 hB hTC2 hb b3) ?_
    rintro st3 ⟨c1, c2, c3⟩
    have e : ∀ x, (x < 148 ∨ 161 < x) → st3 x = st1 x := fun x hx => (c1 x (by omega)).trans (b1 x (by omega) (by omega))
    have hcl2 : q_cl st1 st3 := ⟨fun x hx => e x (by omega), fun x p q r => e x (by omega)⟩
    have hall : ∀ b n : Nat, q_bestRow g b n → q_pC g n (q_many n).toNat st3 := fun b' n' hb' => by
      obtain ⟨_, rfl⟩ := q_bestRow_uniq hb hb'
      exact c2
    refine ⟨⟨q_same_cl hS hcl2, hB, q_C_D hC hcl2.2, ?_, ?_, ?_, Or.inr ⟨c3, hall⟩, ?_⟩, hall, q_cl_trans hcl hcl2⟩
    · rcases hT with h | ⟨h1, h2⟩
      · exact Or.inl (by rw [e 99 (by decide)]; exact h)
      · exact Or.inr ⟨by rw [e 99 (by decide)]; exact h1, q_TC_of h2 hB (fun x p q => by unfold q_isT at p; exact e x (by omega))⟩
    · rcases hR with h | ⟨h1, h2, h3⟩
      · exact Or.inl (by rw [e 134 (by decide)]; exact h)
      · refine Or.inr ⟨by rw [e 134 (by decide)]; exact h1, q_RC_of h2 (fun x p q j _ => by rw [e x (by omega)]), ?_⟩
        rcases h3 with h3 | ⟨h3, h4⟩
        · exact Or.inl (by rw [e 134 (by decide)]; exact h3)
        · exact Or.inr ⟨by rw [e 134 (by decide)]; exact h3, q_ord_of h4 ⟨by rw [e 134 (by decide)], by rw [e 134 (by decide)]⟩ ⟨e 138 (by decide), e 139 (by decide)⟩⟩
    · rcases hL with h | ⟨h1, h2⟩
      · exact Or.inl (by rw [e 144 (by decide)]; exact h)
      · exact Or.inr ⟨by rw [e 144 (by decide)]; exact h1, q_LC_of h2 ⟨by rw [e 144 (by decide)], by rw [e 144 (by decide)]⟩ (e 145 (by decide))⟩
    · rw [e 134 (by decide)]; exact hptr
  · have hPC : ∀ b n : Nat, q_bestRow g b n → q_pC g n (q_many n).toNat st1 := by
      rcases hP with k | ⟨_, k⟩
      · omega
      · exact k
    exact ⟨⟨hS, hB, hC, hT, hR, hL, hP, hptr⟩, hPC, hcl⟩
-- numberAt, whatever place
theorem q_rank0 {g : z_St} (hB : q_RB g) {b n : Nat} (h : q_bestRow g b n) : q_rank g b = 0 := by
  obtain ⟨h1, x, h2, h3⟩ := h
  refine e_cnt_zero fun j hj => ?_
  have hxb := q_wl_bd hB b x h2
  cases hq : q_ah g b j with
  | false => rfl
  | true =>
    unfold q_ah at hq
    simp only [Bool.or_eq_true, Bool.and_eq_true, decide_eq_true_eq] at hq
    rw [h2, e_I_some] at hq
    cases hw : q_wl g j with
    | none => rw [hw, e_I_none] at hq; omega
    | some y =>
      have := h3 j y hj hw
      rw [hw, e_I_some] at hq
      omega
theorem q_ord_up {g st : z_St} (h : q_ord g st) (h2 : st 134 10 = 1) : q_ord g st ∧ st 134 10 = 1 := ⟨h, h2⟩
theorem s_numberAt {g st0 : z_St} (h : q_INV g st0) (hRC : q_RC g st0) (h9 : st0 134 9 = 1) {x : Int} (hx : 0 ≤ x ∧ x ≤ 2147483647) : q_ok (J_X5_numberAt x st0) (fun r => q_INV g r.2 ∧ q_best g x r.1 ∧ -1 ≤ r.1 ∧ r.1 ≤ 9999) := by
  have h' := h
  obtain ⟨hS, hB, hC, hT, hR, hL, hP, hptr⟩ := h
  have hlen := q_len_le hB
  obtain ⟨N, hN⟩ : ∃ N, e_cnt (fun k => (q_wl g k).isSome) (q_len g) = N := ⟨_, rfl⟩
  have hc : N ≤ q_len g := by rw [← hN]; exact e_cnt_le _
  -- the ranks of the rows that there are lie under N
  have hord47 : ∀ st : z_St, q_INV g st → q_RC g st → q_ord g st → ¬ x = 0 → x < N → q_ok (J_X5_numberAt_47 x st) (fun r => q_INV g r.2 ∧ q_best g x r.1 ∧ -1 ≤ r.1 ∧ r.1 ≤ 9999) := by
    intro st hI hRC2 ho h0 hlt
    obtain ⟨a, b, p1, p2, p3, p4⟩ := ho
    have ha : a = 138 ∨ a = 139 := by unfold q_ptr at p1; omega
    obtain ⟨i, q1, q2, q3, q4⟩ := p4 x.toNat (by rw [hN]; omega)
    rw [show (x.toNat : Int) = x by omega] at q1
    have e := List.getElem?_eq_getElem (l := q_rows g) (i := i) q2
    have hn := q_rows_lt e
    simp only [J_X5_numberAt_47, q_g, q_b, q_let, q_ite, q_some, z32, z64, true_or, or_true, true_and, and_true]
    rw [p2, q1, (hRC2.2.2.2.2 i _ e).1]
    exact ⟨ha, by omega, by omega, hI, Or.inr ⟨i, _, e, q3, by omega, rfl⟩, by omega, by omega⟩
  have none_case : ¬ x < N → q_best g x (-1) := fun hge => by
    refine Or.inl ⟨rfl, fun k hk hkn => ?_⟩
    have hall : q_rank g k < N := by
      rw [← hN]
      have : ∀ m, m ≤ q_len g → e_cnt (q_ah g k) m ≤ e_cnt (fun k => (q_wl g k).isSome) m ∧ (k < m → e_cnt (q_ah g k) m < e_cnt (fun k => (q_wl g k).isSome) m) := by
        intro m
        induction m with
        | zero => intro _; show 0 ≤ 0 ∧ (k < 0 → 0 < 0); exact ⟨Nat.le_refl 0, fun h => absurd h (Nat.not_lt_zero _)⟩
        | succ m ih =>
          intro hm
          obtain ⟨i1, i2⟩ := ih (by omega)
          have ea : e_cnt (q_ah g k) (m + 1) = e_cnt (q_ah g k) m + (if q_ah g k m = true then 1 else 0) := rfl
          have eb : e_cnt (fun k => (q_wl g k).isSome) (m + 1) = e_cnt (fun k => (q_wl g k).isSome) m + (if (q_wl g m).isSome = true then 1 else 0) := rfl
          have himp : q_ah g k m = true → (q_wl g m).isSome = true := fun hq => by
            unfold q_ah at hq
            simp only [Bool.or_eq_true, Bool.and_eq_true, decide_eq_true_eq] at hq
            cases hwk : q_wl g k with
            | none => exact absurd hwk hkn
            | some z =>
              have hz := q_wl_bd hB k z hwk
              rw [hwk, e_I_some] at hq
              cases hwm : q_wl g m with
              | none => rw [hwm, e_I_none] at hq; omega
              | some y => rfl
          refine ⟨?_, fun hkm => ?_⟩
          · by_cases hq : q_ah g k m = true
            · rw [if_pos hq] at ea; rw [if_pos (himp hq)] at eb; omega
            · rw [if_neg hq] at ea; omega
          · by_cases ekm : k = m
            · subst ekm
              have hself : ¬ q_ah g k k = true := fun hq => by
                unfold q_ah at hq
                simp only [Bool.or_eq_true, Bool.and_eq_true, decide_eq_true_eq] at hq
                omega
              have hsome : (q_wl g k).isSome = true := by
                cases hwk : q_wl g k with
                | none => exact absurd hwk hkn
                | some z => rfl
              rw [if_neg hself] at ea
              rw [if_pos hsome] at eb
              omega
            · have := i2 (by omega)
              by_cases hq : q_ah g k m = true
              · rw [if_pos hq] at ea; rw [if_pos (himp hq)] at eb; omega
              · rw [if_neg hq] at ea; omega
      exact (this (q_len g) (Nat.le_refl _)).2 hk
    omega
  simp only [J_X5_numberAt, J_X5_numberAt_35, q_g, q_b, q_let, q_ite, q_some, z32, z64, true_or, or_true, true_and, and_true]
  rw [hRC.2.2.1, hN]
  refine ⟨by omega, fun hlt => ⟨by omega, fun h0 => ?_, fun h0 => ?_⟩, fun hge => ⟨h', none_case (by omega), by decide, by decide⟩⟩
  · have hn : q_bw g ≠ none := fun hn => by have := q_bw_cnt.mpr hn; omega
    obtain ⟨b, n, h1, h2, h3⟩ := q_lead_best hRC hn
    have hbl : b < q_len g := (List.getElem?_eq_some_iff.mp h2.1).1
    have hn56 := q_rows_lt h2.1
    rw [h1, h3]
    refine ⟨by omega, fun h9 => by omega, fun _ => ⟨by omega, h', Or.inr ⟨b, n, h2.1, ?_, ?_, rfl⟩, by omega, by omega⟩⟩
    · obtain ⟨_, y, hy, _⟩ := h2
      rw [hy]; exact fun h => nomatch h
    · rw [q_rank0 hB h2, h0]; rfl
  · have h10 : st0 134 10 = 0 ∨ (st0 134 10 = 1 ∧ q_ord g st0) := by
      rcases hR with k | ⟨_, _, k⟩
      · omega
      · exact k
    refine ⟨by rcases h10 with k | ⟨k, _⟩ <;> omega, fun hs => ?_, fun hs => ?_⟩
    · refine q_mono (s_X5_sort hB hRC hptr rfl rfl) ?_
      rintro st2 ⟨b1, b2, b3, b4⟩
      have e : ∀ x, x ≠ 134 → x ≠ 138 → x ≠ 139 → st2 x = st0 x := b1
      have hcl2 : q_cl st0 st2 := ⟨fun x hx => e x (by omega) (by omega) (by omega), fun x p q r => e x (by omega) (by omega) (by omega)⟩
      have hRC2 : q_RC g st2 := q_RC_of hRC (fun x p q j hj => by
        by_cases hx : x = 134
        · subst hx; exact b2 j (by omega) (by omega) (by omega)
        · rw [e x hx (by omega) (by omega)])
      have hptr2 : q_ptr (st2 134 3) (st2 134 4) := by
        obtain ⟨a, b, p1, p2, p3, _⟩ := b3
        rw [p2, p3]; exact p1
      have hI2 : q_INV g st2 := by
        refine ⟨q_same_cl hS hcl2, hB, q_C_D hC hcl2.2, ?_, Or.inr ⟨by rw [b2 9 (by decide) (by decide) (by decide)]; exact h9, hRC2, Or.inr ⟨b4, b3⟩⟩, ?_, ?_, hptr2⟩
        · rcases hT with h | ⟨h1, h2⟩
          · exact Or.inl (by rw [e 99 (by decide) (by decide) (by decide)]; exact h)
          · exact Or.inr ⟨by rw [e 99 (by decide) (by decide) (by decide)]; exact h1, q_TC_of h2 hB (fun x p q => by unfold q_isT at p; exact e x (by omega) (by omega) (by omega))⟩
        · rcases hL with h | ⟨h1, h2⟩
          · exact Or.inl (by rw [e 144 (by decide) (by decide) (by decide)]; exact h)
          · exact Or.inr ⟨by rw [e 144 (by decide) (by decide) (by decide)]; exact h1, q_LC_of h2 ⟨by rw [e 144 (by decide) (by decide) (by decide)], by rw [e 144 (by decide) (by decide) (by decide)]⟩ (e 145 (by decide) (by decide) (by decide))⟩
        · rcases hP with h | ⟨h1, h2⟩
          · exact Or.inl (by rw [e 148 (by decide) (by decide) (by decide)]; exact h)
          · exact Or.inr ⟨by rw [e 148 (by decide) (by decide) (by decide)]; exact h1, fun b' n hb => q_pC_of (h2 b' n hb) (fun x p q => e x (by omega) (by omega) (by omega))⟩
      exact hord47 st2 hI2 hRC2 b3 h0 (by omega)
    · have ho : q_ord g st0 := by
        rcases h10 with k | ⟨_, k⟩
        · omega
        · exact k
      exact hord47 st0 h' hRC ho h0 (by omega)
