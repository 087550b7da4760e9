-- THE CALLS: found, arcs, arc, keyword, path
theorem z64_lor {a b : Int} : z64 (z_lor a b) := z64_of _
theorem q_found_64 {g : z_St} (hB : q_RB g) {beam most what : Int} : z64 (q_found g beam most what) := by
  have hf1 := hB.1.1
  unfold q_found
  have h1 := q_dr_bd (g := g) (beam := beam) (most := most) (g 168 2).toNat
  by_cases h2 : what = 2
  · rw [if_pos h2]; exact ⟨by omega, by omega⟩
  · rw [if_neg h2]
    cases hq : q_fin g beam most with
    | none => show z64 (-1); exact ⟨by decide, by decide⟩
    | some p =>
      obtain ⟨x, n⟩ := p
      have := q_fin_b hB x n hq
      show z64 (if what = 0 then n else x)
      split
      · exact ⟨by omega, by omega⟩
      · exact ⟨by omega, by omega⟩
theorem j_21 {g st : z_St} {f : Int → Int} {i : Int} (h : q_INV g st) (hf : ∀ j, z32 (f j)) : q_ok (JL_21 f i st) (fun st' => q_INV g st') := by
  have hB := h.2.1
  obtain ⟨bm, hbm⟩ : ∃ bm, z_lor (z_lshl (f (i + 1)) 32) (z_land (f (i + 2)) 4294967295) = bm := ⟨_, rfl⟩
  have hb64 : z64 bm := by rw [← hbm]; exact z64_lor
  have hb : -9223372036854775808 ≤ bm ∧ bm ≤ 9223372036854775807 := hb64
  have h3 : -2147483648 ≤ f (i + 3) ∧ f (i + 3) ≤ 2147483647 := hf (i + 3)
  have h4 : -2147483648 ≤ f (i + 4) ∧ f (i + 4) ≤ 2147483647 := hf (i + 4)
  have hR := fun s (hs : q_same g s) => s_X12_found hs hB hb64 (hf (i + 3)) (hf (i + 4))
  unfold JL_21
  rw [hbm]
  by_cases hc : 0 ≤ bm ∧ 1 ≤ f (i + 3) ∧ 0 ≤ f (i + 4) ∧ f (i + 4) ≤ 2
  · refine j_J (code := 0) (val := q_found g bm (f (i + 3)) (f (i + 4))) (by decide) (fun _ => q_found_64 hB) (l_y (X := J_X11_found bm (f (i + 3)) (f (i + 4)) st) ?_ (fun q _ hq => by unfold J_L_found; rw [hq])) (fun s hs => q_mono (hR s hs.1) (fun q hq => ⟨hq.1, by rw [hq.2.1, if_pos hc], fun _ => hq.2.2 hc⟩))
    unfold J_X11_found
    refine q_xl (s_least_y ⟨hb64, by decide⟩ hc.1) ?_
    simp only [q_g, q_b, q_let, q_ite, q_some, z32, z64, true_or, or_true, true_and, and_true]
    refine ⟨h3, q_xl (s_least_y ⟨⟨by omega, by omega⟩, by decide⟩ hc.2.1) ?_⟩
    refine q_xl (s_range_y ⟨hf (i + 4), by decide, by decide⟩ hc.2.2) ?_
    simp only [q_g, q_b, q_let, q_ite, q_some, z32, z64, true_or, or_true, true_and, and_true]
    refine q_mono (s_readyTable h) ?_
    rintro st1 ⟨a1, a2, a3, a4, a5⟩
    rw [a1.2.2.1.2.2.2.2.1.1, a1.2.2.1.1.1]
    refine q_mono (s_X8_run hB a2 (beam := bm) (most := f (i + 3)) (by omega) (by omega)) ?_
    rintro st2 ⟨b1, b2, b3⟩
    have hI2 : q_INV g st2 := q_INV_mv a1 (fun x hx => b1 x (by unfold q_free at hx; omega))
    have hdr := q_dr_bd (g := g) (beam := bm) (most := f (i + 3)) (g 168 2).toNat
    have hf1 := hB.1.1
    have hF : (-1 ≤ st2 140 4 ∧ st2 140 4 ≤ 100000) ∧ (f (i + 4) = 0 → st2 140 4 = q_found g bm (f (i + 3)) (f (i + 4))) ∧ (f (i + 4) = 1 → st2 140 5 = q_found g bm (f (i + 3)) (f (i + 4))) := by
      unfold q_found
      cases hq : q_fin g bm (f (i + 3)) with
      | none =>
        rw [hq] at b3
        refine ⟨by rw [b3.1]; decide, fun h0 => by rw [if_neg (by omega)]; exact b3.1, fun h0 => by rw [if_neg (by omega)]; exact b3.2⟩
      | some p =>
        obtain ⟨x, n⟩ := p
        rw [hq] at b3
        have := q_fin_b hB x n hq
        refine ⟨by rw [b3.2]; omega, fun h0 => ?_, fun h0 => ?_⟩
        · rw [if_neg (by omega)]; show _ = if f (i + 4) = 0 then n else x; rw [if_pos h0]; exact b3.2
        · rw [if_neg (by omega)]; show _ = if f (i + 4) = 0 then n else x; rw [if_neg (by omega)]; exact b3.1
    simp only [J_X11_found_87, q_g, q_b, q_let, q_ite, q_some, z32, z64, true_or, or_true, true_and, and_true]
    refine ⟨by omega, fun k0 => ⟨by omega, _, rfl, hI2, hF.2.1 k0⟩, fun k0 => ⟨by omega, fun k1 => ⟨_, rfl, hI2, hF.2.2 k1⟩, fun k1 => ⟨by omega, _, rfl, hI2, ?_⟩⟩⟩
    unfold q_found
    rw [if_pos (by omega)]; exact b2
  · refine j_J (code := 1) (val := 0) (by decide) (fun h9 => absurd h9 (by decide)) (l_n (X := J_X11_found bm (f (i + 3)) (f (i + 4)) st) (e := 1) (by decide) ?_ (fun q he hq => by unfold J_L_found; rw [hq]; show (if q.1 = 1 then _ else _) = _; rw [if_pos he])) (fun s hs => q_mono (hR s hs.1) (fun q hq => ⟨hq.1, by rw [hq.2.1, if_neg hc], fun h9 => absurd h9 (by decide)⟩))
    unfold J_X11_found
    by_cases k1 : 0 ≤ bm
    · refine q_xl (s_least_y ⟨hb64, by decide⟩ k1) ?_
      simp only [q_g, q_b, q_let, q_ite, q_some, z32, z64, true_or, or_true, true_and, and_true]
      refine ⟨h3, ?_⟩
      by_cases k2 : 1 ≤ f (i + 3)
      · refine q_xl (s_least_y ⟨⟨by omega, by omega⟩, by decide⟩ k2) ?_
        exact q_xr (s_range_n ⟨hf (i + 4), by decide, by decide⟩ (by omega)) ⟨_, rfl, h, rfl⟩
      · exact q_xr (s_least_n ⟨⟨by omega, by omega⟩, by decide⟩ (by omega)) ⟨_, rfl, h, rfl⟩
    · exact q_xr (s_least_n ⟨hb64, by decide⟩ (by omega)) ⟨_, rfl, h, rfl⟩
theorem q_nArcs_bd {g : z_St} (hB : q_RB g) {beam : Int} : 0 ≤ q_nArcs g beam ∧ q_nArcs g beam ≤ 1445 := by
  rw [← q_nArcs_P hB]
  have := e_cnt_le (f := q_P3 g beam) 1445
  omega
theorem j_22 {g st : z_St} {f : Int → Int} {i : Int} (h : q_INV g st) (_hf : ∀ j, z32 (f j)) : q_ok (JL_22 f i st) (fun st' => q_INV g st') := by
  have hB := h.2.1
  obtain ⟨bm, hbm⟩ : ∃ bm, z_lor (z_lshl (f (i + 1)) 32) (z_land (f (i + 2)) 4294967295) = bm := ⟨_, rfl⟩
  have hb64 : z64 bm := by rw [← hbm]; exact z64_lor
  have hR := fun s (hs : q_same g s) => s_X12_arcs hs hB hb64
  have hnb := q_nArcs_bd hB (beam := bm)
  unfold JL_22
  rw [hbm]
  by_cases hc : 0 ≤ bm
  · refine j_I (code := 0) (val := q_nArcs g bm) (by decide) (fun _ => ⟨by omega, by omega⟩) (l_y (X := J_X11_arcs bm st) ?_ (fun q h9 hq => by unfold J_L_arcs; rw [hq]; show z_g (z32 q.1) _ = _; unfold z_g; rw [if_pos (show z32 q.1 from by rw [h9]; exact ⟨by omega, by omega⟩)])) (fun s hs => q_mono (hR s hs.1) (fun q hq => ⟨hq.1, by rw [hq.2.1, if_neg (by omega)], fun _ => hq.2.2 hc⟩))
    unfold J_X11_arcs
    refine q_xl (s_least_y ⟨hb64, by decide⟩ hc) ?_
    simp only [q_g, q_b, q_let, q_ite, q_some, z32, z64, true_or, or_true, true_and, and_true]
    refine q_mono (s_readyLattice h) ?_
    rintro st1 ⟨a1, a2, a3, a4⟩
    exact q_eq (s_X3_countWithin hB a2 hb64) ⟨_, rfl, a1, rfl⟩
  · refine j_I (code := 1) (val := 0) (by decide) (fun h9 => absurd h9 (by decide)) (l_n (X := J_X11_arcs bm st) (e := 1) (by decide) ?_ (fun q he hq => by unfold J_L_arcs; rw [hq]; show (if q.1 = 1 then _ else _) = _; rw [if_pos he])) (fun s hs => q_mono (hR s hs.1) (fun q hq => ⟨hq.1, by rw [hq.2.1, if_pos (by omega)], fun h9 => absurd h9 (by decide)⟩))
    unfold J_X11_arcs
    exact q_xr (s_least_n ⟨hb64, by decide⟩ (by omega)) ⟨_, rfl, h, rfl⟩
theorem j_24 {g st : z_St} {f : Int → Int} {i : Int} (h : q_INV g st) (hf : ∀ j, z32 (f j)) : q_ok (JL_24 f i st) (fun st' => q_INV g st') := by
  have hB := h.2.1
  have hw1 := hB.2.2.2.2.1.1
  have e24 := h.2.2.1.2.2.2.2.1.1
  have h1 : -2147483648 ≤ f (i + 1) ∧ f (i + 1) ≤ 2147483647 := hf (i + 1)
  have hR := fun s (hs : q_same g s) => s_X12_keyword hs hB (hf (i + 1))
  by_cases hc : 0 ≤ f (i + 1) ∧ f (i + 1) < g 168 18
  · have hkb := q_kw_bd hB (w := (f (i + 1)).toNat) (by omega)
    refine j_J (code := 0) (val := e_I (-1) (q_kw g (f (i + 1)).toNat)) (by decide) (fun _ => e_I_64 hkb (by decide)) (l_y (X := J_X11_keyword (f (i + 1)) st) ?_ (fun q _ hq => by unfold J_L_keyword; rw [hq])) (fun s hs => q_mono (hR s hs.1) (fun q hq => ⟨hq.1, by rw [hq.2.1, if_pos hc], fun _ => hq.2.2 hc⟩))
    unfold J_X11_keyword
    refine q_xl (s_index_y ⟨hf (i + 1), by rw [e24]; exact ⟨by omega, by omega⟩⟩ (by rw [e24]; exact hc)) ?_
    simp only [q_g, q_b, q_let, q_ite, q_some, z32, z64, true_or, or_true, true_and, and_true]
    refine q_mono (s_readyLattice h) ?_
    rintro st1 ⟨a1, a2, a3, a4⟩
    have hk := s_X3_leastSlackOf hB a2 (w := (f (i + 1)).toNat) (by omega)
    rw [show ((f (i + 1)).toNat : Int) = f (i + 1) by omega] at hk
    refine q_eq hk ?_
    exact q_eq (s_orNone hkb (by decide)) ⟨_, rfl, a1, rfl⟩
  · refine j_J (code := 1) (val := 0) (by decide) (fun h9 => absurd h9 (by decide)) (l_n (X := J_X11_keyword (f (i + 1)) st) (e := 3) (by decide) ?_ (fun q he hq => by unfold J_L_keyword; rw [hq]; show (if q.1 = 3 then _ else _) = _; rw [if_pos he])) (fun s hs => q_mono (hR s hs.1) (fun q hq => ⟨hq.1, by rw [hq.2.1, if_neg hc], fun h9 => absurd h9 (by decide)⟩))
    unfold J_X11_keyword
    exact q_xr (s_index_n ⟨hf (i + 1), by rw [e24]; exact ⟨by omega, by omega⟩⟩ (by rw [e24]; exact hc)) ⟨_, rfl, h, rfl⟩
theorem j_23 {g st : z_St} {f : Int → Int} {i : Int} (h : q_INV g st) (hf : ∀ j, z32 (f j)) : q_ok (JL_23 f i st) (fun st' => q_INV g st') := by
  have hB := h.2.1
  have hf1 := hB.1.1
  obtain ⟨bm, hbm⟩ : ∃ bm, z_lor (z_lshl (f (i + 1)) 32) (z_land (f (i + 2)) 4294967295) = bm := ⟨_, rfl⟩
  have hb64 : z64 bm := by rw [← hbm]; exact z64_lor
  have h3 : -2147483648 ≤ f (i + 3) ∧ f (i + 3) ≤ 2147483647 := hf (i + 3)
  have hR := fun s (hs : q_same g s) => s_X12_arc hs hB hb64 (hf (i + 3)) (hf (i + 4))
  have hnb := q_nArcs_bd hB (beam := bm)
  have hex : (0 ≤ f (i + 3) ∧ f (i + 3) < q_nArcs g bm) ↔ ∃ k, q_arcAt g bm (f (i + 3)) k := by
    constructor
    · intro hh
      have hP := q_nArcs_P hB (beam := bm)
      obtain ⟨k, k1, k2, k3⟩ := e_cnt_ex (f := q_P3 g bm) (c := (f (i + 3)).toNat) (n := 1445) (by omega)
      exact ⟨k, k1, k2, by omega⟩
    · rintro ⟨k, k1, k2, k3⟩
      have hP := q_nArcs_P hB (beam := bm)
      have h8 := e_cnt_le2 (f := q_P3 g bm) (a := k + 1) (b := 1445) k1
      rw [e_cnt_s k2] at h8
      omega
  unfold JL_23
  rw [hbm]
  -- the class as far as the number of the ARC
  have hX : ∀ P : z_R (Int × z_St) → Prop, 0 ≤ bm → (∀ st1, q_INV g st1 → q_LC g st1 → q_ok (z_x (J_X11_checkIndex (f (i + 3)) (q_nArcs g bm) st1) fun _ => z_x (J_X11_checkRange (f (i + 4)) 0 3 st1) fun _ => z_b (J_X3_tellWithin bm (f (i + 3)) (f (i + 4)) st1) fun r11 => some (.inl (r11, st1))) P) → q_ok (J_X11_arc bm (f (i + 3)) (f (i + 4)) st) P := fun P hb hk => by
    unfold J_X11_arc
    refine q_xl (s_least_y ⟨hb64, by decide⟩ hb) ?_
    rw [q_b]
    refine q_mono (s_readyLattice h) ?_
    rintro st1 ⟨a1, a2, a3, a4⟩
    rw [q_b]
    exact q_eq (s_X3_countWithin hB a2 hb64) (hk st1 a1 a2)
  by_cases hc : 0 ≤ bm
  · by_cases ha : 0 ≤ f (i + 3) ∧ f (i + 3) < q_nArcs g bm
    · obtain ⟨k, hk⟩ := hex.mp ha
      have hP := q_P3_iff.mp hk.2.1
      obtain ⟨x, hx⟩ := q_one_some hP.2.2.2
      have hxb := q_sl_bd hB (w := k % 5) (f := k / 85) (t := k / 5 % 17) (by have := hB.2.2.2.2.1.1; omega) (by omega) (by omega) x hx
      by_cases hw : 0 ≤ f (i + 4) ∧ f (i + 4) ≤ 3
      · have hval : z64 (q_tell g (f (i + 4)) k) := by
          unfold q_tell
          rw [hx, e_I_some]
          (repeat' split) <;> exact ⟨by omega, by omega⟩
        refine j_J (code := 0) (val := q_tell g (f (i + 4)) k) (by decide) (fun _ => hval) (l_y (X := J_X11_arc bm (f (i + 3)) (f (i + 4)) st) (hX _ hc (fun st1 a1 a2 => ?_)) (fun q _ hq => by unfold J_L_arc; rw [hq])) (fun s hs => q_mono (hR s hs.1) (fun q hq => ?_))
        · refine q_xl (s_index_y ⟨hf (i + 3), ⟨by omega, by omega⟩⟩ ha) ?_
          refine q_xl (s_range_y ⟨hf (i + 4), by decide, by decide⟩ hw) ?_
          rw [q_b]
          exact q_eq (s_X3_tellWithin hB a2 hb64 (hf (i + 3)) ha.1 hw hk) ⟨_, rfl, _, rfl, a1, rfl⟩
        · have := (hq.2.2 hc).1 k hk
          exact ⟨hq.1, by rw [this.1, if_pos hw], fun _ => this.2 hw⟩
      · refine j_J (code := 2) (val := 0) (by decide) (fun h9 => absurd h9 (by decide)) (l_n (X := J_X11_arc bm (f (i + 3)) (f (i + 4)) st) (e := 1) (by decide) (hX _ hc (fun st1 a1 a2 => ?_)) (fun q he hq => by unfold J_L_arc; rw [hq]; simp only [he]; rfl)) (fun s hs => q_mono (hR s hs.1) (fun q hq => ?_))
        · refine q_xl (s_index_y ⟨hf (i + 3), ⟨by omega, by omega⟩⟩ ha) ?_
          exact q_xr (s_range_n ⟨hf (i + 4), by decide, by decide⟩ hw) ⟨_, rfl, a1, rfl⟩
        · have := (hq.2.2 hc).1 k hk
          exact ⟨hq.1, by rw [this.1, if_neg hw], fun h9 => absurd h9 (by decide)⟩
    · refine j_J (code := 1) (val := 0) (by decide) (fun h9 => absurd h9 (by decide)) (l_n (X := J_X11_arc bm (f (i + 3)) (f (i + 4)) st) (e := 3) (by decide) (hX _ hc (fun st1 a1 a2 => ?_)) (fun q he hq => by unfold J_L_arc; rw [hq]; simp only [he]; rfl)) (fun s hs => q_mono (hR s hs.1) (fun q hq => ?_))
      · exact q_xr (s_index_n ⟨hf (i + 3), ⟨by omega, by omega⟩⟩ ha) ⟨_, rfl, a1, rfl⟩
      · exact ⟨hq.1, (hq.2.2 hc).2 (fun k hk => ha (hex.mpr ⟨k, hk⟩)), fun h9 => absurd h9 (by decide)⟩
  · refine j_J (code := 2) (val := 0) (by decide) (fun h9 => absurd h9 (by decide)) (l_n (X := J_X11_arc bm (f (i + 3)) (f (i + 4)) st) (e := 1) (by decide) ?_ (fun q he hq => by unfold J_L_arc; rw [hq]; simp only [he]; rfl)) (fun s hs => q_mono (hR s hs.1) (fun q hq => ⟨hq.1, hq.2.1 (by omega), fun h9 => absurd h9 (by decide)⟩))
    unfold J_X11_arc
    exact q_xr (s_least_n ⟨hb64, by decide⟩ (by omega)) ⟨_, rfl, h, rfl⟩
