-- WHAT IS ASKED: the class alone, in terms of g
def q_yes (g : z_St) (X : Option (z_R (Int × z_St))) (V : Int) : Prop := q_ok X (fun r => ∃ q, r = .inl q ∧ q_INV g q.2 ∧ q.1 = V)
def q_no (g : z_St) (X : Option (z_R (Int × z_St))) (e : Nat) : Prop := q_ok X (fun r => ∃ q, r = .inr q ∧ q_INV g q.2 ∧ q.1 = e)
/-- what a call of the law's own answers -/
def q_ans (g : z_St) (V : Int) (r : Int × z_St) : Prop := q_INV g r.2 ∧ r.1 = V
theorem xd_y {g : z_St} {X : Option (z_R (Int × z_St))} {F : Int × z_St → Option (Int × z_St)} {V : Int} {P : Int × z_St → Prop} (h : q_yes g X V) (k : ∀ q, q_INV g q.2 → q.1 = V → q_ok (F q) P) : q_ok (z_xd X F) P := by
  obtain ⟨r, h1, q, rfl, h2, h3⟩ := h
  unfold z_xd
  rw [h1]
  exact k q h2 h3
def z_xc (e : Nat) : Int := if e = 3 then -1002 else if e = 1 then -1003 else -1004
theorem xd_n {g : z_St} {X : Option (z_R (Int × z_St))} {F : Int × z_St → Option (Int × z_St)} {e : Nat} (he : e = 1 ∨ e = 2 ∨ e = 3) (h : q_no g X e) : q_ok (z_xd X F) (q_ans g (z_xc e)) := by
  obtain ⟨r, h1, ⟨e9, s⟩, rfl, h2, h3⟩ := h
  dsimp only at h2 h3
  subst h3
  unfold z_xd
  rw [h1]
  rcases he with rfl | rfl | rfl
  · exact ⟨_, rfl, h2, rfl⟩
  · exact ⟨_, rfl, h2, rfl⟩
  · exact ⟨_, rfl, h2, rfl⟩
theorem xd_v {X : Option (z_R Int)} {F : Int → Option (Int × z_St)} {V : Int} {P : Int × z_St → Prop} (h : X = some (.inl V)) (k : q_ok (F V) P) : q_ok (z_xd X F) P := by
  unfold z_xd; rw [h]; exact k
theorem xd_e {g : z_St} {X : Option (z_R Int)} {F : Int → Option (Int × z_St)} {e : Nat} {s : z_St} (he : e = 1 ∨ e = 2 ∨ e = 3) (h : X = some (.inr (e, s))) (hI : q_INV g s) : q_ok (z_xd X F) (q_ans g (z_xc e)) := by
  unfold z_xd; rw [h]
  rcases he with rfl | rfl | rfl
  · exact ⟨_, rfl, hI, rfl⟩
  · exact ⟨_, rfl, hI, rfl⟩
  · exact ⟨_, rfl, hI, rfl⟩
theorem fin_y {g : z_St} {V : Int} {q : Int × z_St} (h : q_INV g q.2) (hv : q.1 = V) : q_ok (J_L_does_472 q.1 q.2) (q_ans g V) := ⟨_, rfl, h, hv⟩
theorem fin_g {g : z_St} {V : Int} {q : Int × z_St} (h : q_INV g q.2) (hv : q.1 = V) (hz : z32 V) : q_ok (z_g (z32 q.1) <| J_L_does_472 q.1 q.2) (q_ans g V) := by
  rw [q_g]
  exact ⟨by rw [hv]; exact hz, _, rfl, h, hv⟩
-- weight, weightAnew
theorem a_weight {g st : z_St} (h : q_INV g st) {x b c d : Int} (hx : z32 x) (hrow : q_isRow g x) : q_ok (J_L_does 15 x b c d st) (q_ans g (e_I (-1) (q_wt g x))) := by
  have hB := h.2.1
  have hck := s_checkRow h.2.2.1 hB hx
  show q_ok (z_xd (J_X11_weight x st) fun r27 => J_L_does_472 r27.1 r27.2) _
  refine xd_y ?_ (fun q a b => fin_y a b)
  unfold J_X11_weight
  refine q_xl (hck.1 hrow) ?_
  simp only [q_g, q_b, q_let, q_ite, q_some, z32, z64, true_or, or_true, true_and, and_true]
  refine q_mono (s_readyRows h) ?_
  rintro st1 ⟨a1, a2, a3, a4, a5, a6⟩
  obtain ⟨n, hn, _⟩ := q_isRow_nat hrow
  have hw := s_X5_weightOf hB a3 (n := n) (by rw [← hn]; exact hrow)
  rw [← hn] at hw
  refine q_eq hw ?_
  refine q_eq (s_orNone (q_wt_b hB hrow) (by decide)) ?_
  exact ⟨_, rfl, a1, rfl⟩
theorem a_weightAnew {g st : z_St} (h : q_INV g st) {x b c d : Int} (hx : z32 x) (hrow : q_isRow g x) : q_ok (J_L_does 16 x b c d st) (q_ans g (e_I (-1) (q_wt g x))) := by
  have hB := h.2.1
  have hck := s_checkRow h.2.2.1 hB hx
  show q_ok (z_xd (J_X11_weightAnew x st) fun r28 => J_L_does_472 r28.1 r28.2) _
  refine xd_y ?_ (fun q a b => fin_y a b)
  unfold J_X11_weightAnew
  refine q_xl (hck.1 hrow) ?_
  simp only [q_g, q_b, q_let, q_ite, q_some, z32, z64, true_or, or_true, true_and, and_true]
  refine q_mono (s_readyTable h) ?_
  rintro st1 ⟨a1, a2, a3, a4, a5⟩
  refine q_mono (s_X6_read (by decide) hrow.1) ?_
  rintro st2 ⟨b1, b2, b3⟩
  have hC2 : q_C g st2 := q_C_D a1.2.2.1 (fun x p q r => b1 x (by omega) (by omega))
  have hT2 : q_TC g st2 := q_TC_of a2 hB (fun x a b => by unfold q_isT at a; exact b1 x (by omega) (by omega))
  have hmb := q_many_bd x
  have hr1 := hrow.1
  obtain ⟨m, hm⟩ : ∃ m : Nat, q_many x = (m : Int) := ⟨(q_many x).toNat, by omega⟩
  rw [hC2.1.1]
  have htw := s_X11_tryWords hC2 hB hT2 hrow b3 hm 7 0 0 (by omega) (by omega) (by have := hB.1.1; omega)
  rw [Nat.sub_zero, q_wt_R hB hrow hm] at htw
  refine q_eq htw ?_
  refine q_eq (s_orNone (q_wt_b hB hrow) (by decide)) ?_
  refine ⟨_, rfl, ?_, rfl⟩
  exact q_INV_mv a1 (fun x hx => b1 x (by unfold q_free at hx; omega) (by unfold q_free at hx; omega))
-- best
theorem a_best {g st : z_St} (h : q_INV g st) {x b c d : Int} (hx : z32 x) (h0 : 0 ≤ x) : q_ok (J_L_does 17 x b c d st) (fun r => q_INV g r.2 ∧ q_best g x r.1 ∧ -1 ≤ r.1 ∧ r.1 ≤ 9999) := by
  have hx9 : -2147483648 ≤ x ∧ x ≤ 2147483647 := hx
  have hX : q_ok (J_X11_best x st) (fun r => ∃ q, r = .inl q ∧ q_INV g q.2 ∧ q_best g x q.1 ∧ -1 ≤ q.1 ∧ q.1 ≤ 9999) := by
    simp only [J_X11_best, q_g, q_b, q_let, q_ite, q_some, z32, z64, true_or, or_true, true_and, and_true]
    refine ⟨by omega, ?_⟩
    refine q_xl (s_least_y ⟨⟨by omega, by omega⟩, by decide⟩ h0) ?_
    simp only [q_g, q_b, q_let, q_ite, q_some, z32, z64, true_or, or_true, true_and, and_true]
    refine q_mono (s_readyRows h) ?_
    rintro st1 ⟨a1, a2, a3, a4, a5, a6⟩
    refine q_mono (s_numberAt a1 a3 a5 (x := x) (by omega)) ?_
    rintro r ⟨b1, b2, b3⟩
    exact ⟨_, rfl, b1, b2, b3⟩
  show q_ok (z_xd (J_X11_best x st) fun r29 => z_g (z32 r29.1) <| J_L_does_472 r29.1 r29.2) _
  obtain ⟨r, h1, q, rfl, h2, h3, h4, h5⟩ := hX
  unfold z_xd
  rw [h1]
  dsimp only
  rw [q_g]
  exact ⟨⟨by omega, by omega⟩, _, rfl, h2, h3, h4, h5⟩
-- found
theorem a_found {g st : z_St} (h : q_INV g st) {x b c d : Int} (hb64 : z64 x) (h3 : z32 b) (h4 : z32 c) (hc : 0 ≤ x ∧ 1 ≤ b ∧ 0 ≤ c ∧ c ≤ 2) : q_ok (J_L_does 18 x b c d st) (q_ans g (q_found g x b c)) := by
  have hB := h.2.1
  have hb : -9223372036854775808 ≤ x ∧ x ≤ 9223372036854775807 := hb64
  have h39 : -2147483648 ≤ b ∧ b ≤ 2147483647 := h3
  show q_ok (z_xd (J_X11_found x b c st) fun r30 => J_L_does_472 r30.1 r30.2) _
  refine xd_y ?_ (fun q a b => fin_y a b)
  unfold J_X11_found
  refine q_xl (s_least_y ⟨hb64, by decide⟩ hc.1) ?_
  simp only [q_g, q_b, q_let, q_ite, q_some, z32, z64, true_or, or_true, true_and, and_true]
  refine ⟨h39, q_xl (s_least_y ⟨⟨by omega, by omega⟩, by decide⟩ hc.2.1) ?_⟩
  refine q_xl (s_range_y ⟨h4, by decide, by decide⟩ hc.2.2) ?_
  simp only [q_g, q_b, q_let, q_ite, q_some, z32, z64, true_or, or_true, true_and, and_true]
  refine q_mono (s_readyTable h) ?_
  rintro st1 ⟨a1, a2, a3, a4, a5⟩
  rw [a1.2.2.1.2.2.2.2.1.1, a1.2.2.1.1.1]
  refine q_mono (s_X8_run hB a2 (beam := x) (most := b) (by omega) (by omega)) ?_
  rintro st2 ⟨b1, b2, b3⟩
  have hI2 : q_INV g st2 := q_INV_mv a1 (fun x hx => b1 x (by unfold q_free at hx; omega))
  have hdr := q_dr_bd (g := g) (beam := x) (most := b) (g 168 2).toNat
  have hf1 := hB.1.1
  have hF : (-1 ≤ st2 140 4 ∧ st2 140 4 ≤ 100000) ∧ (c = 0 → st2 140 4 = q_found g x b c) ∧ (c = 1 → st2 140 5 = q_found g x b c) := by
    unfold q_found
    cases hq : q_fin g x b with
    | none =>
      rw [hq] at b3
      refine ⟨by rw [b3.1]; decide, fun h0 => by rw [if_neg (by omega)]; exact b3.1, fun h0 => by rw [if_neg (by omega)]; exact b3.2⟩
    | some p =>
      obtain ⟨y, n⟩ := p
      rw [hq] at b3
      have := q_fin_b hB y n hq
      refine ⟨by rw [b3.2]; omega, fun h0 => ?_, fun h0 => ?_⟩
      · rw [if_neg (by omega)]; show _ = if c = 0 then n else y; rw [if_pos h0]; exact b3.2
      · rw [if_neg (by omega)]; show _ = if c = 0 then n else y; rw [if_neg (by omega)]; exact b3.1
  simp only [J_X11_found_87, q_g, q_b, q_let, q_ite, q_some, z32, z64, true_or, or_true, true_and, and_true]
  refine ⟨by omega, fun k0 => ⟨by omega, _, rfl, hI2, hF.2.1 k0⟩, fun k0 => ⟨by omega, fun k1 => ⟨_, rfl, hI2, hF.2.2 k1⟩, fun k1 => ⟨by omega, _, rfl, hI2, ?_⟩⟩⟩
  unfold q_found
  rw [if_pos (by omega)]; exact b2
-- arcs, arc, keyword
theorem a_arcs {g st : z_St} (h : q_INV g st) {x b c d : Int} (hb64 : z64 x) (hc : 0 ≤ x) : q_ok (J_L_does 19 x b c d st) (q_ans g (q_nArcs g x)) := by
  have hB := h.2.1
  have hnb := q_nArcs_bd hB (beam := x)
  show q_ok (z_xd (J_X11_arcs x st) fun r31 => z_g (z32 r31.1) <| J_L_does_472 r31.1 r31.2) _
  refine xd_y ?_ (fun q a b => fin_g a b ⟨by omega, by omega⟩)
  unfold J_X11_arcs
  refine q_xl (s_least_y ⟨hb64, by decide⟩ hc) ?_
  simp only [q_g, q_b, q_let, q_ite, q_some, z32, z64, true_or, or_true, true_and, and_true]
  refine q_mono (s_readyLattice h) ?_
  rintro st1 ⟨a1, a2, a3, a4⟩
  exact q_eq (s_X3_countWithin hB a2 hb64) ⟨_, rfl, a1, rfl⟩
theorem q_arc_ex {g : z_St} (hB : q_RB g) {bm a : Int} (ha : 0 ≤ a ∧ a < q_nArcs g bm) : ∃ k, q_arcAt g bm a k := by
  have hP := q_nArcs_P hB (beam := bm)
  obtain ⟨k, k1, k2, k3⟩ := e_cnt_ex (f := q_P3 g bm) (c := a.toNat) (n := 1445) (by omega)
  exact ⟨k, k1, k2, by omega⟩
theorem arc_X {g st : z_St} (h : q_INV g st) {x b c : Int} (hb64 : z64 x) (hb : 0 ≤ x) (P : z_R (Int × z_St) → Prop) (hk : ∀ st1, q_INV g st1 → q_LC g st1 → q_ok (z_x (J_X11_checkIndex b (q_nArcs g x) st1) fun _ => z_x (J_X11_checkRange c 0 3 st1) fun _ => z_b (J_X3_tellWithin x b c st1) fun r11 => some (.inl (r11, st1))) P) : q_ok (J_X11_arc x b c st) P := by
  have hB := h.2.1
  unfold J_X11_arc
  refine q_xl (s_least_y ⟨hb64, by decide⟩ hb) ?_
  rw [q_b]
  refine q_mono (s_readyLattice h) ?_
  rintro st1 ⟨a1, a2, a3, a4⟩
  rw [q_b]
  exact q_eq (s_X3_countWithin hB a2 hb64) (hk st1 a1 a2)
theorem a_arc {g st : z_St} (h : q_INV g st) {x b c d : Int} (hb64 : z64 x) (h3 : z32 b) (h4 : z32 c) (hc : 0 ≤ x) (hw : 0 ≤ c ∧ c ≤ 3) {k : Nat} (hk : q_arcAt g x b k) (hb0 : 0 ≤ b) : q_ok (J_L_does 20 x b c d st) (q_ans g (q_tell g c k)) := by
  have hB := h.2.1
  have hnb := q_nArcs_bd hB (beam := x)
  have hP := q_nArcs_P hB (beam := x)
  have ha : 0 ≤ b ∧ b < q_nArcs g x := by
    obtain ⟨k1, k2, k3⟩ := hk
    have h8 := e_cnt_le2 (f := q_P3 g x) (a := k + 1) (b := 1445) k1
    rw [e_cnt_s k2] at h8
    omega
  show q_ok (z_xd (J_X11_arc x b c st) fun r32 => J_L_does_472 r32.1 r32.2) _
  refine xd_y (arc_X h hb64 hc _ (fun st1 a1 a2 => ?_)) (fun q a b => fin_y a b)
  refine q_xl (s_index_y ⟨h3, ⟨by omega, by omega⟩⟩ ha) ?_
  refine q_xl (s_range_y ⟨h4, by decide, by decide⟩ hw) ?_
  rw [q_b]
  exact q_eq (s_X3_tellWithin hB a2 hb64 h3 ha.1 hw hk) ⟨_, rfl, _, rfl, a1, rfl⟩
theorem a_arc_n {g st : z_St} (h : q_INV g st) {x b c d : Int} (hb64 : z64 x) (h3 : z32 b) (hc : 0 ≤ x) (ha : ¬ (0 ≤ b ∧ b < q_nArcs g x)) : q_ok (J_L_does 20 x b c d st) (q_ans g (-1002)) := by
  have hB := h.2.1
  have hnb := q_nArcs_bd hB (beam := x)
  show q_ok (z_xd (J_X11_arc x b c st) fun r32 => J_L_does_472 r32.1 r32.2) _
  refine xd_n (e := 3) (by decide) (arc_X h hb64 hc _ (fun st1 a1 a2 => ?_))
  exact q_xr (s_index_n ⟨h3, ⟨by omega, by omega⟩⟩ ha) ⟨_, rfl, a1, rfl⟩
theorem a_keyword {g st : z_St} (h : q_INV g st) {x b c d : Int} (hx : z32 x) (hc : 0 ≤ x ∧ x < g 168 18) : q_ok (J_L_does 21 x b c d st) (q_ans g (e_I (-1) (q_kw g x.toNat))) := by
  have hB := h.2.1
  have hw1 := hB.2.2.2.2.1.1
  have e24 := h.2.2.1.2.2.2.2.1.1
  have hkb := q_kw_bd hB (w := x.toNat) (by omega)
  show q_ok (z_xd (J_X11_keyword x st) fun r33 => J_L_does_472 r33.1 r33.2) _
  refine xd_y ?_ (fun q a b => fin_y a b)
  unfold J_X11_keyword
  refine q_xl (s_index_y ⟨hx, by rw [e24]; exact ⟨by omega, by omega⟩⟩ (by rw [e24]; exact hc)) ?_
  simp only [q_g, q_b, q_let, q_ite, q_some, z32, z64, true_or, or_true, true_and, and_true]
  refine q_mono (s_readyLattice h) ?_
  rintro st1 ⟨a1, a2, a3, a4⟩
  have hk := s_X3_leastSlackOf hB a2 (w := x.toNat) (by omega)
  rw [show (x.toNat : Int) = x by omega] at hk
  refine q_eq hk ?_
  exact q_eq (s_orNone hkb (by decide)) ⟨_, rfl, a1, rfl⟩
-- path
theorem a_path {g st : z_St} (h : q_INV g st) {x w c d : Int} (hx : z32 x) (hw32 : z32 w) (hw : 0 ≤ w ∧ w ≤ 5) {b n k i : Nat} (hb : q_bestRow g b n) (k1 : k < (q_many n).toNat) (k2 : x = ((q_Tk g (q_dig n) (q_many n).toNat k + i : Nat) : Int)) (k3 : q_Tk g (q_dig n) (q_many n).toNat k + i < q_Tk g (q_dig n) (q_many n).toNat (k + 1)) (hc : 0 ≤ x ∧ x < g 168 2) : q_ok (J_L_does 23 x w c d st) (q_ans g (q_tv g (q_dig n) (q_many n).toNat k i w)) := by
  have hB := h.2.1
  have hf1 := hB.1.1
  have e12 := h.2.2.1.1.1
  have hn : q_bw g ≠ none := fun h9 => by
    obtain ⟨z, hz, _⟩ := e_mins_le (f := q_wl g) (List.getElem?_eq_some_iff.mp hb.1).1 _ hb.2.choose_spec.1
    have hz2 : q_bw g = some z := hz
    rw [h9] at hz2; cases hz2
  have hv := q_tv_32 hB hb k1 k3 (c := w)
  show q_ok (z_xd (J_X11_path x w st) fun r35 => z_g (z32 r35.1) <| J_L_does_472 r35.1 r35.2) _
  refine xd_y ?_ (fun q a b => fin_g a b ⟨by omega, by omega⟩)
  unfold J_X11_path
  refine q_xl (s_index_y ⟨hx, by rw [e12]; exact ⟨by omega, by omega⟩⟩ (by rw [e12]; exact hc)) ?_
  refine q_xl (s_range_y ⟨hw32, by decide, by decide⟩ hw) ?_
  refine q_xok (q_mono (s_checkBest h) ?_)
  intro r hr
  cases r with
  | inr q => exact absurd hr.1 hn
  | inl s =>
    have hr2 := hr.2
    dsimp only
    simp only [q_g, q_b, q_let, q_ite, q_some, z32, z64, true_or, or_true, true_and, and_true]
    refine q_mono (s_readyTrack hr2.1 hn) ?_
    rintro st2 ⟨b1, b2, b3⟩
    refine ⟨by omega, by omega, _, rfl, b1, ?_⟩
    have := b2 b n hb k i k1 k3 w hw.1 (by omega)
    rw [← k2] at this
    exact this
theorem a_path_n {g st : z_St} (h : q_INV g st) {x w c d : Int} (hx : z32 x) (hw32 : z32 w) (hw : 0 ≤ w ∧ w ≤ 5) (hn : q_bw g = none) : q_ok (J_L_does 23 x w c d st) (q_ans g (if 0 ≤ x ∧ x < g 168 2 then -1004 else -1002)) := by
  have hB := h.2.1
  have hf1 := hB.1.1
  have e12 := h.2.2.1.1.1
  show q_ok (z_xd (J_X11_path x w st) fun r35 => z_g (z32 r35.1) <| J_L_does_472 r35.1 r35.2) _
  by_cases hc : 0 ≤ x ∧ x < g 168 2
  · rw [if_pos hc]
    refine xd_n (e := 2) (by decide) ?_
    unfold J_X11_path
    refine q_xl (s_index_y ⟨hx, by rw [e12]; exact ⟨by omega, by omega⟩⟩ (by rw [e12]; exact hc)) ?_
    refine q_xl (s_range_y ⟨hw32, by decide, by decide⟩ hw) ?_
    refine q_xok (q_mono (s_checkBest h) ?_)
    intro r hr
    cases r with
    | inl s => exact absurd hn hr.1
    | inr q => exact ⟨_, rfl, hr.2.2.1, hr.2.1⟩
  · rw [if_neg hc]
    refine xd_n (e := 3) (by decide) ?_
    unfold J_X11_path
    exact q_xr (s_index_n ⟨hx, by rw [e12]; exact ⟨by omega, by omega⟩⟩ (by rw [e12]; exact hc)) ⟨_, rfl, h, rfl⟩
-- sure
theorem a_sure {g st : z_St} (h : q_INV g st) {x w c d : Int} (hb64 : z64 x) (hw32 : z32 w) (cb : 0 ≤ x) {b n k i : Nat} (hbr : q_bestRow g b n) (k1 : k < (q_many n).toNat) (k2 : w = ((q_Tk g (q_dig n) (q_many n).toNat k + i : Nat) : Int)) (k3 : q_Tk g (q_dig n) (q_many n).toNat k + i < q_Tk g (q_dig n) (q_many n).toNat (k + 1)) (hc : 0 ≤ w ∧ w < g 168 2) : q_ok (J_L_does 22 x w c d st) (fun r => q_INV g r.2 ∧ ∃ p q : Int, (1 ≤ p ∧ p ≤ q ∧ q ≤ 400) ∧ r.1 = z_bits p q) := by
  have hB := h.2.1
  have hf1 := hB.1.1
  have hw1 := hB.2.2.2.2.1.1
  have e12 := h.2.2.1.1.1
  have hb : -9223372036854775808 ≤ x ∧ x ≤ 9223372036854775807 := hb64
  have hn : q_bw g ≠ none := fun h9 => by
    obtain ⟨z, hz, _⟩ := e_mins_le (f := q_wl g) (List.getElem?_eq_some_iff.mp hbr.1).1 _ hbr.2.choose_spec.1
    have hz2 : q_bw g = some z := hz
    rw [h9] at hz2; cases hz2
  have z12 : z32 (st 1 2) := by rw [e12]; exact ⟨by omega, by omega⟩
  have i1 := s_index_y (x := w) (st := st) ⟨hw32, z12⟩ (by rw [e12]; exact hc)
  have hmb := q_many_bd n
  have hdk := (q_rows_isRow hB hbr.1).2 k (by omega) (by omega)
  obtain ⟨fr, hfr⟩ : ∃ fr : Nat, w = fr := ⟨w.toNat, by omega⟩
  have hfe : fr = q_Tk g (q_dig n) (q_many n).toNat k + i := by omega
  have ho := q_nA_one hB hbr k1 k3 (beam := x) cb
  rw [← hfe] at ho
  have hbd := q_nA_bd hB (beam := x) (frame := fr) (by omega) (only := q_dig n k)
  have hbd2 := q_nA_bd hB (beam := x) (frame := fr) (by omega) (only := -1)
  have hbits := z_bits_bd (p := q_nAround g x fr (q_dig n k)) (q := q_nAround g x fr (-1)) (by omega)
  have hX : q_yes g (J_X11_sure x w st) (z_bits (q_nAround g x fr (q_dig n k)) (q_nAround g x fr (-1))) := by
    unfold J_X11_sure
    refine q_xl i1 ?_
    refine q_xl (s_least_y ⟨hb64, by decide⟩ cb) ?_
    refine q_xok (q_mono (s_checkBest h) ?_)
    intro r hr
    cases r with
    | inr q => exact absurd hr.1 hn
    | inl s =>
      have hr2 := hr.2
      dsimp only
      simp only [q_g, q_b, q_let, q_ite, q_some, z32, z64, true_or, or_true, true_and, and_true]
      refine q_mono (s_readyTrack hr2.1 hn) ?_
      rintro st2 ⟨b1, b2, b3⟩
      refine q_mono (s_readyLattice b1) ?_
      rintro st3 ⟨d1, d2, d3, d4⟩
      have hw9 : st3 (150 + 1) w = q_dig n k := by
        rw [d4 (150 + 1) (by decide), k2]
        exact b2 b n hbr k i k1 k3 1 (by decide) (by decide)
      rw [hw9, hfr]
      refine ⟨by decide, by omega, ?_⟩
      refine q_eq (s_X3_countAround hB d2 hb64 (frame := fr) (only := q_dig n k) (by omega) (by omega)) ?_
      refine q_eq (s_X3_countAround hB d2 hb64 (frame := fr) (only := -1) (by omega) (by omega)) ?_
      simp only [J_X11_partBits, q_g, q_b, q_let, q_ite, q_some, z32, z64, true_or, or_true, true_and, and_true]
      exact ⟨by omega, _, rfl, d1, rfl⟩
  show q_ok (z_xd (J_X11_sure x w st) fun r34 => z_g (z32 r34.1) <| J_L_does_472 r34.1 r34.2) _
  refine xd_y hX (fun q a b => ?_)
  rw [q_g]
  exact ⟨by rw [b]; exact ⟨by omega, by omega⟩, _, rfl, a, _, _, by omega, b⟩
-- errors
theorem a_errors {g st : z_St} (h : q_INV g st) {x b0 c d : Int} (zx : z32 x) (hrow : q_isRow g x) {b n : Nat} (hbr : q_bestRow g b n) : q_ok (J_L_does 24 x b0 c d st) (q_ans g (q_err n x)) := by
  have hB := h.2.1
  have hw1 := hB.2.2.2.2.1.1
  have hck := s_checkRow h.2.2.1 hB zx
  have hmx := q_many_bd x
  have hr1 := hrow.1
  have hn : q_bw g ≠ none := fun h9 => by
    obtain ⟨z, hz, _⟩ := e_mins_le (f := q_wl g) (List.getElem?_eq_some_iff.mp hbr.1).1 _ hbr.2.choose_spec.1
    have hz2 : q_bw g = some z := hz
    rw [h9] at hz2; cases hz2
  have hbrow := q_rows_isRow hB hbr.1
  have hbr1 := hbrow.1
  have hmn := q_many_bd n
  have hv := q_ed_bd (d := q_dig n) (e := q_dig x) (q_many n).toNat (q_many x).toNat
  have hv0 : q_err n x = q_ed (q_dig n) (q_dig x) (q_many n).toNat (q_many x).toNat := rfl
  have hX : q_yes g (J_X11_errors x st) (q_err n x) := by
    unfold J_X11_errors
    refine q_xl (hck.1 hrow) ?_
    refine q_xok (q_mono (s_checkBest h) ?_)
    intro r hr
    cases r with
    | inr q => exact absurd hr.1 hn
    | inl s =>
      obtain ⟨_, hI, hTC, hRC, hcl⟩ := hr
      dsimp only
      simp only [q_g, q_b, q_let, q_ite, q_some, z32, z64, true_or, or_true, true_and, and_true]
      obtain ⟨b', n', hb', hnum⟩ := s_number0 hB hRC hn
      obtain ⟨_, rfl⟩ := q_bestRow_uniq hbr hb'
      refine q_eq hnum ?_
      dsimp only
      refine q_mono (s_X6_read (by decide) hbr1) ?_
      rintro st2 ⟨b1, b2, b3⟩
      refine q_mono (s_X6_read (by decide) hr1) ?_
      rintro st3 ⟨c1, c2, c3⟩
      have hb9 : q_rd 160 n st3 := ⟨by rw [c1 160 (by decide) (by decide)]; exact b3.1, fun k p q => by rw [c1 (160 + 1) (by decide) (by decide)]; exact b3.2 k p q⟩
      refine q_mono (s_X11_ed (m := (q_many n).toNat) (l := (q_many x).toNat) hb9 c3 (by omega) (by omega) (fun k p q => by have := hbrow.2 k p (by omega); exact ⟨by omega, by omega⟩) (fun k p q => by have := hrow.2 k p (by omega); exact ⟨by omega, by omega⟩)) ?_
      rintro ⟨v, st4⟩ ⟨d1, d2⟩
      dsimp only at d1 d2
      refine ⟨_, rfl, q_INV_mv hI (fun y hy => ?_), d2⟩
      unfold q_free at hy
      show st4 y = s y
      rw [d1 y (by omega), c1 y (by omega) (by omega), b1 y (by omega) (by omega)]
  show q_ok (z_xd (J_X11_errors x st) fun r36 => z_g (z32 r36.1) <| J_L_does_472 r36.1 r36.2) _
  refine xd_y hX (fun q a b => fin_g a b ⟨by omega, by omega⟩)
