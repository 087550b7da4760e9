-- ARCS: the reference's arcs, keyword, and the counts of sure
theorem q_sl_none {g : z_St} (hB : q_RB g) (hn : q_bw g = none) {w f t : Nat} (hw : w < g 168 18) (hf : f < t) (ht : t ≤ g 168 2) : q_sl g w f t = none := by
  unfold q_sl
  cases hx : q_thr g w f t with
  | none => rfl
  | some x =>
    obtain ⟨b, hb, _⟩ := q_thr_row hB hw hf ht hx
    rw [hn] at hb; cases hb
theorem q_one_none {g : z_St} (hB : q_RB g) (hn : q_bw g = none) {beam : Int} {w f t : Nat} (hw : w < g 168 18) (hf : f < t) (ht : t ≤ g 168 2) : q_one g beam w f t = 0 := by
  unfold q_one
  rw [q_sl_none hB hn hw hf ht]
theorem e_sum_z {f : Nat → Int} {n : Nat} (h : ∀ i, i < n → f i = 0) : e_sum f n = 0 := by rw [e_sum_congr h, e_sum_zero]
theorem q_nArcs_none {g : z_St} (hB : q_RB g) (hn : q_bw g = none) {beam : Int} : q_nArcs g beam = 0 := e_sum_z fun f hf => e_sum_z fun k hk => e_sum_z fun w hw => q_one_none hB hn (by omega) (by omega) (by omega)
theorem q_kw_none {g : z_St} (hB : q_RB g) (hn : q_bw g = none) {w : Nat} (hw : w < g 168 18) : q_kw g w = none := e_mins_allnone fun f hf => e_mins_allnone fun k hk => q_sl_none hB hn hw (by omega) (by omega)
theorem q_bw_flag {g : z_St} {b : Int} (h : q_first g (q_rows g) b) : (b < 0 → b = -1 ∧ q_bw g = none) ∧ (-1 ≤ b ∧ b ≤ 780 ∨ q_len g > 780) := by
  rcases q_bw_first h with ⟨rfl, h2, _⟩ | ⟨k, n, x, rfl, h1, _⟩
  · exact ⟨fun _ => ⟨rfl, h2⟩, Or.inl (by decide)⟩
  · have : k < q_len g := (List.getElem?_eq_some_iff.mp h1).1
    refine ⟨fun h9 => by omega, ?_⟩
    by_cases hl : q_len g > 780
    · exact Or.inr hl
    · exact Or.inl (by omega)
theorem s_X12_arcs {g st0 : z_St} (hS : q_same g st0) (hB : q_RB g) {x1 : Int} (hx : z64 x1) : q_ok (J_X12_arcs x1 st0) (fun r => q_K g st0 r.2 ∧ r.2 168 0 = (if x1 < 0 then 1 else 0) ∧ (0 ≤ x1 → r.1 = q_nArcs g x1)) := by
  have hw1 := hB.2.2.2.2.1.1
  have hf1 := hB.1.1
  have hlen := q_len_le hB
  have hx2 : -9223372036854775808 ≤ x1 ∧ x1 ≤ 9223372036854775807 := hx
  simp only [J_X12_arcs, J_X12_arcs_12, q_g, q_b, q_let, q_ite, q_some, z32, z64, true_or, or_true, true_and, and_true]
  refine ⟨by omega, fun h => ?_, fun h => ?_⟩
  · refine q_eq (s_holds_p (by decide)) ?_
    dsimp only
    refine ⟨by decide, fun h9 => absurd h9 (by decide), fun _ => ⟨q_K_of hS (fun x a => q_up_row (by omega)) (fun j a b => z_up_n (by omega)), by rw [if_pos h, z_up_at], fun h9 => by omega⟩⟩
  · refine q_eq s_holds_0 ?_
    dsimp only
    refine ⟨by decide, fun _ => ?_, fun h9 => absurd rfl h9⟩
    refine q_mono (s_X12_laysArcs (q_up_0 hS) hB) ?_
    rintro ⟨b, st⟩ ⟨a1, a2, a3, a4⟩
    dsimp only at a1 a2 a3 a4 ⊢
    have hK : q_K g st0 st := q_K_of hS (fun x a => by rw [a1 x (by omega), q_up_row (by omega)]) (fun j a b => by rw [a2 j (by omega), z_up_n (by omega)])
    have h00 : st 168 0 = 0 := by rw [a2 0 (by decide), z_up_at]
    have hfl := q_bw_flag a3
    have e18 := hK.2.2 18 (by decide) (by decide)
    have e2 := hK.2.2 2 (by decide) (by decide)
    rw [if_neg h]
    refine ⟨by omega, fun hb => ?_, fun hb => ?_⟩
    · simp only [J_X12_arcs_34, q_g, q_b, q_let, q_ite, q_some, z32, z64, true_or, or_true, true_and, and_true]
      refine q_eq (q_fold0 (fun _ => 0) 0 (by decide) (fun k hk => by omega) ?_) ⟨hK, h00, fun _ => (q_nArcs_none hB (hfl.1 hb).2).symm⟩
      refine q_of ?_
      simp only [J_X12_arcs_b39, q_g, q_b, q_let, q_ite, q_some, z32, z64, true_or, or_true, true_and, and_true]
      rw [e18]
      exact ⟨by omega, fun _ => ⟨by decide, fun _ => trivial, fun h9 => absurd trivial h9⟩, fun _ => trivial⟩
    · simp only [J_X12_arcs_34, q_g, q_b, q_let, q_ite, q_some, z32, z64, true_or, or_true, true_and, and_true]
      refine q_eq (q_sums0 0 (fun w => e_sum (fun f => e_sum (fun k => q_one g x1 w f (f + 1 + k)) ((g 168 2).toNat - f)) (g 168 2).toNat) (g 168 18).toNat (by omega) (fun w hw => ?_) (fun x => ?_)) ⟨hK, h00, fun _ => by rw [Int.zero_add, q_nArcs_sw]⟩
      · refine q_of ?_
        simp only [J_X12_arcs_b39, q_g, q_b, q_let, q_ite, q_some, z32, z64, true_or, or_true, true_and, and_true]
        rw [e18]
        refine ⟨by omega, fun _ => ⟨by decide, fun h9 => absurd h9 (by decide), fun _ => ?_⟩, fun h9 => by omega⟩
        refine q_eq (q_sums0 _ (fun f => e_sum (fun k => q_one g x1 w f (f + 1 + k)) ((g 168 2).toNat - f)) (g 168 2).toNat (by omega) (fun f hf => ?_) (fun x => ?_)) rfl
        · refine q_of ?_
          simp only [J_X12_arcs_b56, q_g, q_b, q_let, q_ite, q_some, z32, z64, true_or, or_true, true_and, and_true]
          rw [e2]
          refine ⟨by omega, fun _ => ?_, fun h9 => by omega⟩
          refine q_eq (q_sums _ (fun k => q_one g x1 w f (f + 1 + k)) ((f : Int) + 1) ((g 168 2).toNat - f) (by omega) (fun k hk => ?_) (fun x => ?_)) rfl
          · refine q_of ?_
            simp only [J_X12_arcs_b71, J_X12_arcs_100, q_g, q_b, q_let, q_ite, q_some, z32, z64, true_or, or_true, true_and, and_true]
            rw [e2]
            refine ⟨by omega, fun h9 => by omega, fun _ => ?_⟩
            have key := s_X12_isArc hB a4 hx (w := w) (f := f) (t := f + 1 + k) (by omega) (by omega) (by omega)
            rw [show ((f + 1 + k : Nat) : Int) = (f : Int) + 1 + k by omega] at key
            have hq := q_one_bd (g := g) (beam := x1) (w := w) (f := f) (t := f + 1 + k)
            refine q_eq key ?_
            refine ⟨by omega, fun h0 => by rw [h0], fun h0 => ?_⟩
            rw [show q_one g x1 w f (f + 1 + k) = 1 by omega]
          · refine q_of ?_
            simp only [J_X12_arcs_b71, q_g, q_b, q_let, q_ite, q_some, z32, z64, true_or, or_true, true_and, and_true]
            rw [e2]
            exact ⟨by omega, fun _ => trivial, fun h9 => by omega⟩
        · refine q_of ?_
          simp only [J_X12_arcs_b56, q_g, q_b, q_let, q_ite, q_some, z32, z64, true_or, or_true, true_and, and_true]
          rw [e2]
          exact ⟨by omega, fun h9 => by omega, fun _ => trivial⟩
      · refine q_of ?_
        simp only [J_X12_arcs_b39, q_g, q_b, q_let, q_ite, q_some, z32, z64, true_or, or_true, true_and, and_true]
        rw [e18]
        exact ⟨by omega, fun h9 => by omega, fun _ => trivial⟩
theorem s_X12_keyword {g st0 : z_St} (hS : q_same g st0) (hB : q_RB g) {x1 : Int} (hx : z32 x1) : q_ok (J_X12_keyword x1 st0) (fun r => q_K g st0 r.2 ∧ r.2 168 0 = (if 0 ≤ x1 ∧ x1 < g 168 18 then 0 else 1) ∧ (0 ≤ x1 ∧ x1 < g 168 18 → r.1 = e_I (-1) (q_kw g x1.toNat))) := by
  have hw1 := hB.2.2.2.2.1.1
  have hf1 := hB.1.1
  have hlen := q_len_le hB
  have hx2 : -2147483648 ≤ x1 ∧ x1 ≤ 2147483647 := hx
  have e018 := hS.2 18 (by decide) (by decide)
  simp only [J_X12_keyword, J_X12_keyword_14, q_g, q_b, q_let, q_ite, q_some, z32, z64, true_or, or_true, true_and, and_true]
  refine q_eq (s_X12_isWord (by omega)) ?_
  rw [e018]
  refine ⟨by unfold q_in; split <;> decide, fun h => ?_, fun h => ?_⟩
  · have h1 := q_in_0' h
    refine q_eq (s_holds_p (by decide)) ?_
    dsimp only
    refine ⟨by decide, fun h9 => absurd h9 (by decide), fun _ => ⟨q_K_of hS (fun x a => q_up_row (by omega)) (fun j a b => z_up_n (by omega)), by rw [if_neg (by omega), z_up_at], fun h9 => by omega⟩⟩
  · have h1 := q_in_n0 h
    refine q_eq s_holds_0 ?_
    dsimp only
    refine ⟨by decide, fun _ => ?_, fun h9 => absurd rfl h9⟩
    refine q_mono (s_X12_laysArcs (q_up_0 hS) hB) ?_
    rintro ⟨b, st⟩ ⟨a1, a2, a3, a4⟩
    dsimp only at a1 a2 a3 a4 ⊢
    have hK : q_K g st0 st := q_K_of hS (fun x a => by rw [a1 x (by omega), q_up_row (by omega)]) (fun j a b => by rw [a2 j (by omega), z_up_n (by omega)])
    have h00 : st 168 0 = 0 := by rw [a2 0 (by decide), z_up_at]
    have hfl := q_bw_flag a3
    have e2 := hK.2.2 2 (by decide) (by decide)
    obtain ⟨w, rfl⟩ : ∃ w : Nat, x1 = w := ⟨x1.toNat, by omega⟩
    have hkb := q_kw_bd hB (w := w) (by omega)
    have hkI := e_I_le (K := 1000000000000000000) hkb (by decide) (by decide)
    have told : (if e_I 1000000000000000000 (q_kw g w) < 1000000000000000000 then e_I 1000000000000000000 (q_kw g w) else -1) = e_I (-1) (q_kw g w) := by
      cases hk : q_kw g w with
      | none => rfl
      | some x => have := hkb x hk; rw [e_I_some, e_I_some, if_pos (by omega)]
    rw [if_pos (by omega), show ((w : Int)).toNat = w by omega]
    refine ⟨by omega, fun hb => ?_, fun hb => ?_⟩
    · simp only [J_X12_keyword_40, q_g, q_b, q_let, q_ite, q_some, z32, z64, true_or, or_true, true_and, and_true]
      refine q_eq (q_fold0 (fun _ => 1000000000000000000) 0 (by decide) (fun k hk => by omega) ?_) ?_
      · refine q_of ?_
        simp only [J_X12_keyword_b45, q_g, q_b, q_let, q_ite, q_some, z32, z64, true_or, or_true, true_and, and_true]
        rw [e2]
        exact ⟨by omega, fun _ => ⟨by decide, fun _ => trivial, fun h9 => absurd trivial h9⟩, fun _ => trivial⟩
      · refine q_eq (s_X12_told (by decide)) ⟨hK, h00, fun _ => ?_⟩
        rw [q_kw_none hB (hfl.1 hb).2 (by omega)]; rfl
    · simp only [J_X12_keyword_40, q_g, q_b, q_let, q_ite, q_some, z32, z64, true_or, or_true, true_and, and_true]
      refine q_eq (q_mins0 none (fun f => e_mins (fun k => q_sl g w f (f + 1 + k)) ((g 168 2).toNat - f)) (g 168 2).toNat (by omega) (fun f hf => ?_) (fun x => ?_)) ?_
      · refine q_of ?_
        simp only [J_X12_keyword_b45, q_g, q_b, q_let, q_ite, q_some, z32, z64, true_or, or_true, true_and, and_true]
        rw [e2]
        refine ⟨by omega, fun _ => ⟨by decide, fun h9 => absurd h9 (by decide), fun _ => ?_⟩, fun h9 => by omega⟩
        refine q_eq (q_mins _ (fun k => q_sl g w f (f + 1 + k)) ((f : Int) + 1) ((g 168 2).toNat - f) (by omega) (fun k hk => ?_) (fun x => ?_)) rfl
        · refine q_of ?_
          simp only [J_X12_keyword_b65, q_g, q_b, q_let, q_ite, q_some, z32, z64, true_or, or_true, true_and, and_true]
          rw [e2]
          refine ⟨by omega, fun h9 => by omega, fun _ => ?_⟩
          refine q_eq s_X12_span ?_
          have e := a4 w f (f + 1 + k) (by omega) (by omega) (by omega) trivial
          have b1 := q_sl_bd hB (w := w) (f := f) (t := f + 1 + k) (by omega) (by omega) (by omega)
          have b2 : e_bd 10000000000000 (e_min (e_min none (e_mins (fun f => e_mins (fun k => q_sl g w f (f + 1 + k)) ((g 168 2).toNat - f)) f)) (e_mins (fun k => q_sl g w f (f + 1 + k)) k)) := e_bd_min (e_bd_mins fun f hf => e_bd_mins fun k hk => q_sl_bd hB (by omega) (by omega) (by omega)) (e_bd_mins fun k hk => q_sl_bd hB (by omega) (by omega) (by omega))
          have c1 := e_I_le (K := 1000000000000000000) b1 (by decide) (by decide)
          have c2 := e_I_le (K := 1000000000000000000) b2 (by decide) (by decide)
          rw [show 289 * (w : Int) + 17 * f + ((f : Int) + 1 + k) = 289 * (w : Int) + 17 * f + ((f + 1 + k : Nat) : Int) by omega, e]
          refine ⟨by omega, ?_⟩
          refine q_eq (s_least (by omega)) ?_
          rw [e_min_N b2 b1 (by decide)]
        · refine q_of ?_
          simp only [J_X12_keyword_b65, q_g, q_b, q_let, q_ite, q_some, z32, z64, true_or, or_true, true_and, and_true]
          rw [e2]
          exact ⟨by omega, fun _ => trivial, fun h9 => by omega⟩
      · refine q_of ?_
        simp only [J_X12_keyword_b45, q_g, q_b, q_let, q_ite, q_some, z32, z64, true_or, or_true, true_and, and_true]
        rw [e2]
        exact ⟨by omega, fun h9 => by omega, fun _ => trivial⟩
      · refine q_eq (s_X12_told (x1 := e_I 1000000000000000000 (q_kw g w)) (by omega)) ⟨hK, h00, fun _ => told⟩
