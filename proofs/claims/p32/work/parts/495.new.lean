-- A CALL THAT CHANGES THE STATE
theorem q_up_ne {st : z_St} {i j v y : Int} (h : y ≠ j) : z_up st i j v i y = st i y := z_up_n (fun k => h k.2)
/-- what is kept is stale -/
def q_od (st : z_St) : z_St := z_up (z_up (z_up (z_up st 99 4 0) 134 9 0) 144 5 0) 148 3 0
theorem s_outdate {st : z_St} : J_X11_outdate st = some (q_od st) := by
  refine q_of ?_
  simp only [J_X11_outdate, q_g, q_b, q_let, q_ite, q_some, z32, z64, true_or, or_true, true_and, and_true]
  rfl
theorem q_od_row {st : z_St} {x : Int} (h : x ≠ 99 ∧ x ≠ 134 ∧ x ≠ 144 ∧ x ≠ 148) : q_od st x = st x := by
  unfold q_od
  rw [q_up_row h.2.2.2, q_up_row h.2.2.1, q_up_row h.2.1, q_up_row h.1]
def q_G1 (g c : z_St) : Prop := q_Rf g ∧ q_Cf g c
def q_G2 (g c : z_St) : Prop := q_Rs g ∧ q_Cs g c
def q_G3 (g c : z_St) : Prop := q_Rn g ∧ q_Cn g c
def q_G4 (g c : z_St) : Prop := q_Rt g ∧ q_Ct g c
def q_G5 (g c : z_St) : Prop := q_Rw g ∧ q_Cw g c
def q_G6 (g c : z_St) : Prop := (q_Rb g ∧ q_Rp g) ∧ q_Cp g c
theorem k_1 {g c g' c' : z_St} (h : q_G1 g c) (a : g' 168 2 = g 168 2) (b : g' 169 = g 169) (d : c' 1 2 = c 1 2) (e : ∀ x, 3 ≤ x → x ≤ 18 → c' x = c x) : q_G1 g' c' := by
  obtain ⟨⟨r1, r2⟩, c1, c2⟩ := h
  refine ⟨⟨by rw [a]; exact r1, by rw [b]; exact r2⟩, by rw [d, a]; exact c1, fun i w p q r s => ?_⟩
  rw [e _ (by omega) (by omega), b]; exact c2 i w p q r s
theorem k_2 {g c g' c' : z_St} (h : q_G2 g c) (a : g' 168 4 = g 168 4) (b : g' 170 = g 170) (d : c' 1 3 = c 1 3) (e : ∀ x, 20 ≤ x → x ≤ 23 → c' x = c x) : q_G2 g' c' := by
  obtain ⟨⟨r1, r2⟩, c1, c2⟩ := h
  refine ⟨⟨by rw [a]; exact r1, by rw [b]; exact r2⟩, by rw [d, a]; exact c1, fun i w p q r s => ?_⟩
  rw [e _ (by omega) (by omega), b]; exact c2 i w p q r s
theorem k_3 {g c g' c' : z_St} (h : q_G3 g c) (a : g' 168 11 = g 168 11) (b : ∀ x, 171 ≤ x → x ≤ 176 → g' x = g x) (d : c' 24 1 = c 24 1) (e : ∀ x, 29 ≤ x → x ≤ 58 → c' x = c x) : q_G3 g' c' := by
  obtain ⟨⟨r1, r2, r3, r4, r5⟩, c1, c2, c3⟩ := h
  refine ⟨⟨by rw [a]; exact r1, by rw [b 171 (by decide) (by decide)]; exact r2, by rw [a, b 172 (by decide) (by decide)]; exact r3, by rw [b 173 (by decide) (by decide)]; exact r4, by rw [b 174 (by decide) (by decide), b 175 (by decide) (by decide), b 176 (by decide) (by decide)]; exact r5⟩, by rw [d, a]; exact c1, fun s p q => ⟨?_, fun w r t => ⟨?_, ?_, ?_, ?_⟩⟩, fun s p q r => ?_⟩
  · rw [e _ (by omega) (by omega), b 173 (by decide) (by decide)]; exact (c2 s p q).1
  · rw [e _ (by omega) (by omega), b 171 (by decide) (by decide)]; exact ((c2 s p q).2 w r t).1
  · rw [e _ (by omega) (by omega), b 174 (by decide) (by decide)]; exact ((c2 s p q).2 w r t).2.1
  · rw [e _ (by omega) (by omega), b 175 (by decide) (by decide)]; exact ((c2 s p q).2 w r t).2.2.1
  · rw [e _ (by omega) (by omega), b 176 (by decide) (by decide)]; exact ((c2 s p q).2 w r t).2.2.2
  · rw [e _ (by omega) (by omega), b 172 (by decide) (by decide)]; exact c3 s p q (by rw [a] at r; exact r)
theorem k_4 {g c g' c' : z_St} (h : q_G4 g c) (a : g' 168 13 = g 168 13) (b : g' 177 = g 177) (d : c' 24 6 = c 24 6) (e : c' 28 = c 28) : q_G4 g' c' := by
  obtain ⟨⟨r1, r2⟩, c1, c2⟩ := h
  exact ⟨⟨by rw [a]; exact r1, by rw [b]; exact r2⟩, by rw [d, a]; exact c1, by rw [e, b]; exact c2⟩
theorem k_5 {g c g' c' : z_St} (h : q_G5 g c) (a : g' 168 18 = g 168 18) (a2 : g 168 11 ≤ g' 168 11) (b : ∀ x, 178 ≤ x → x ≤ 181 → g' x = g x) (d : c' 24 4 = c 24 4) (e : ∀ x, (x = 27 ∨ (59 ≤ x ∧ x ≤ 88)) → c' x = c x) : q_G5 g' c' := by
  obtain ⟨⟨r1, r2, r3, r4, r5, r6, r7⟩, c1, c2, c3⟩ := h
  refine ⟨⟨by rw [a]; exact r1, by rw [b 178 (by decide) (by decide)]; exact r2, by rw [a, b 178 (by decide) (by decide)]; exact r3, by rw [a, b 178 (by decide) (by decide)]; exact r4, by rw [b 179 (by decide) (by decide), b 181 (by decide) (by decide)]; exact r5, by rw [b 180 (by decide) (by decide)]; exact r6, ?_⟩, by rw [d, a]; exact c1, by rw [e 27 (by omega), b 178 (by decide) (by decide)]; exact c2, fun j p q => ⟨?_, ?_, fun k r s => ?_⟩⟩
  · rw [b 178 (by decide) (by decide), b 179 (by decide) (by decide), b 180 (by decide) (by decide)]
    intro w k p q r s
    have := r7 w k p q r s
    exact ⟨this.1, fun y t u => by have := this.2 y t u; omega⟩
  · rw [e _ (by omega), b 179 (by decide) (by decide)]; exact (c3 j p q).1
  · rw [e _ (by omega), b 181 (by decide) (by decide)]; exact (c3 j p q).2.1
  · rw [e _ (by omega), b 180 (by decide) (by decide)]; exact (c3 j p q).2.2 k r s
theorem k_6 {g c g' c' : z_St} (h : q_G6 g c) (a : g' 168 20 = g 168 20 ∧ g' 168 21 = g 168 21 ∧ g' 168 22 = g 168 22) (b : g' 182 = g 182) (d : c' 89 3 = c 89 3 ∧ c' 89 4 = c 89 4 ∧ c' 89 5 = c 89 5) (e : ∀ x, 91 ≤ x → x ≤ 98 → c' x = c x) : q_G6 g' c' := by
  obtain ⟨⟨⟨r1, r2⟩, r3, r4, r5, r6⟩, c1, c2, c3, c4, c5, c6⟩ := h
  have er : ∀ i, q_row g' i = q_row g i := fun i => by unfold q_row; rw [b]
  have ec : ∀ i, q_col g' i = q_col g i := fun i => by unfold q_col; rw [b]
  refine ⟨⟨⟨by rw [a.2.1]; exact r1, by rw [a.2.2]; exact r2⟩, by rw [a.1]; exact r3, by rw [b]; exact r4, fun i p q => by rw [er, a.1]; exact r5 i p q, fun i p q => by rw [ec, a.1]; exact r6 i p q⟩, by rw [d.1, a.1]; exact c1, by rw [d.2.1, a.2.1]; exact c2, by rw [d.2.2, a.2.2]; exact c3, fun i j p q r s => ?_, fun i p q => ?_, fun i p q => ?_⟩
  · rw [e _ (by omega) (by omega), b]; exact c4 i j p q r s
  · rw [e _ (by omega) (by omega), er]; exact c5 i p q
  · rw [e _ (by omega) (by omega), ec]; exact c6 i p q
/-- all of it -/
def q_GG (g c : z_St) : Prop := q_G1 g c ∧ q_G2 g c ∧ q_G3 g c ∧ q_G4 g c ∧ q_G5 g c ∧ q_G6 g c
theorem q_GG_iff {g c : z_St} : q_GG g c ↔ q_RB g ∧ q_C g c := by
  constructor
  · rintro ⟨⟨a1, b1⟩, ⟨a2, b2⟩, ⟨a3, b3⟩, ⟨a4, b4⟩, ⟨a5, b5⟩, ⟨a6, a7⟩, b6⟩
    exact ⟨⟨a1, a2, a3, a4, a5, a6, a7⟩, b1, b2, b3, b4, b5, b6⟩
  · rintro ⟨⟨a1, a2, a3, a4, a5, a6, a7⟩, b1, b2, b3, b4, b5, b6⟩
    exact ⟨⟨a1, b1⟩, ⟨a2, b2⟩, ⟨a3, b3⟩, ⟨a4, b4⟩, ⟨a5, b5⟩, ⟨a6, a7⟩, b6⟩
theorem q_GG_mv {g c g' c' : z_St} (h : q_GG g c) (a : ∀ j, 1 ≤ j → j ≤ 22 → g' 168 j = g 168 j) (b : ∀ x, 169 ≤ x → x ≤ 182 → g' x = g x) (d : ∀ x, 1 ≤ x → x ≤ 98 → c' x = c x) : q_GG g' c' := by
  obtain ⟨h1, h2, h3, h4, h5, h6⟩ := h
  refine ⟨k_1 h1 (a 2 (by decide) (by decide)) (b 169 (by decide) (by decide)) (by rw [d 1 (by decide) (by decide)]) (fun x p q => d x (by omega) (by omega)), k_2 h2 (a 4 (by decide) (by decide)) (b 170 (by decide) (by decide)) (by rw [d 1 (by decide) (by decide)]) (fun x p q => d x (by omega) (by omega)), k_3 h3 (a 11 (by decide) (by decide)) (fun x p q => b x (by omega) (by omega)) (by rw [d 24 (by decide) (by decide)]) (fun x p q => d x (by omega) (by omega)), k_4 h4 (a 13 (by decide) (by decide)) (b 177 (by decide) (by decide)) (by rw [d 24 (by decide) (by decide)]) (d 28 (by decide) (by decide)), k_5 h5 (a 18 (by decide) (by decide)) (by rw [a 11 (by decide) (by decide)]; exact Int.le_refl _) (fun x p q => b x (by omega) (by omega)) (by rw [d 24 (by decide) (by decide)]) (fun x p => d x (by omega) (by omega)), k_6 h6 ⟨a 20 (by decide) (by decide), a 21 (by decide) (by decide), a 22 (by decide) (by decide)⟩ (b 182 (by decide) (by decide)) (by rw [d 89 (by decide) (by decide)]; exact ⟨rfl, rfl, rfl⟩) (fun x p q => d x (by omega) (by omega))⟩
/-- the state speaks for itself -/
theorem q_GG_self {g st : z_St} (h : q_INV g st) : q_GG st st ∧ st 168 20 = g 168 20 := by
  obtain ⟨hS, hB, hC, _⟩ := h
  exact ⟨q_GG_mv (q_GG_iff.mpr ⟨hB, hC⟩) hS.2 hS.1 (fun _ _ _ => rfl), hS.2 20 (by decide) (by decide)⟩
/-- what a call leaves -/
def q_out (g st' : z_St) : Prop := ∃ g', q_INV g' st' ∧ g' 168 20 ≤ g 168 20 + 5
theorem q_out_0 {g : z_St} {x : Option z_St} (h : q_ok x (fun st' => q_INV g st')) : q_ok x (q_out g) := q_mono h (fun _ h => ⟨g, h, by omega⟩)
theorem q_out_new {g st s1 s2 : z_St} {val : Int} (h : q_INV g st) (hlow : ∀ x, (x < 168 ∨ x = 199) → s2 x = z_up (q_od s1) 199 0 val x) (hp : s1 134 3 = st 134 3 ∧ s1 134 4 = st 134 4) (hG : q_GG s2 s1) (hc : s2 168 20 ≤ st 168 20 + 5) : q_out g s2 := by
  obtain ⟨hG0, h20⟩ := q_GG_self h
  have e : ∀ x, x < 168 → s2 x = q_od s1 x := fun x hx => by rw [hlow x (by omega), q_up_row (by omega)]
  have hG2 : q_GG s2 s2 := q_GG_mv hG (fun _ _ _ => rfl) (fun _ _ _ => rfl) (fun x p q => by rw [e x (by omega), q_od_row (by omega)])
  obtain ⟨hB, hC⟩ := q_GG_iff.mp hG2
  have hptr := h.2.2.2.2.2.2.2
  refine ⟨s2, ⟨q_same_refl s2, hB, hC, Or.inl ?_, Or.inl ?_, Or.inl ?_, Or.inl ?_, ?_⟩, by omega⟩
  · rw [e 99 (by decide)]; unfold q_od; rw [q_up_row (by decide), q_up_row (by decide), q_up_row (by decide), z_up_at]
  · rw [e 134 (by decide)]; unfold q_od; rw [q_up_row (by decide), q_up_row (by decide), z_up_at]
  · rw [e 144 (by decide)]; unfold q_od; rw [q_up_row (by decide), z_up_at]
  · rw [e 148 (by decide)]; unfold q_od; rw [z_up_at]
  · have e3 : ∀ j, j ≠ 9 → s2 134 j = s1 134 j := fun j hj => by
      rw [e 134 (by decide)]; unfold q_od
      rw [q_up_row (by decide), q_up_row (by decide), z_up_n (by omega), q_up_row (by decide)]
    rw [e3 3 (by decide), e3 4 (by decide), hp.1, hp.2]
    exact hptr
theorem j_new {g st s1 s2 : z_St} {L : Option (Int × z_St)} {R : z_St → Option (Int × z_St)} {val : Int} (h : q_INV g st) (hL : L = some (0, z_up (q_od s1) 199 0 val)) (hv : z32 val) (hR : R (z_up (q_od s1) 199 0 val) = some (val, s2)) (h0 : s2 168 0 = 0) (hlow : ∀ x, (x < 168 ∨ x = 199) → s2 x = z_up (q_od s1) 199 0 val x) (hp : s1 134 3 = st 134 3 ∧ s1 134 4 = st 134 4) (hG : q_GG s2 s1) (hc : s2 168 20 ≤ st 168 20 + 5) :
    q_ok (z_b L fun r => z_b (R r.2) fun q => z_b (J_X12_thrown q.2) fun t => z_g ((z32 t ∧ z32 r.1) ∧ t = r.1) <| z_g (r.1 = 0 → z32 q.1 ∧ z64 (q.2 199 0) ∧ z64 q.1 ∧ q.2 199 0 = q.1) <| some q.2) (q_out g) := by
  have hout := q_out_new h hlow hp hG hc
  rw [q_b]
  refine q_eq hL ?_
  rw [q_b]
  refine q_eq hR ?_
  rw [q_b]
  refine q_eq (v := 0) (by show some (s2 168 0) = _; rw [h0]) ?_
  rw [q_g, q_g, q_some]
  have e1 : s2 199 0 = val := by rw [hlow 199 (Or.inr rfl), z_up_at]
  dsimp only
  rw [e1]
  have v1 : -2147483648 ≤ val ∧ val ≤ 2147483647 := hv
  exact ⟨⟨⟨by decide, by decide⟩, rfl⟩, fun _ => ⟨hv, ⟨by omega, by omega⟩, ⟨by omega, by omega⟩, rfl⟩, hout⟩
-- frame
theorem s_X12_frame_y {s : z_St} {x1 x2 x3 h : Int} (hx : (-30000 ≤ x1 ∧ x1 ≤ 30000) ∧ (-30000 ≤ x2 ∧ x2 ≤ 30000) ∧ (-30000 ≤ x3 ∧ x3 ≤ 30000)) (hh : s 168 2 = h) (h16 : 0 ≤ h ∧ h < 16) : J_X12_frame x1 x2 x3 s = some (h + 1, z_up (z_up (z_up (z_up (z_up s 168 0 0) 169 (3 * h) x1) 169 (3 * h + 1) x2) 169 (3 * h + 2) x3) 168 2 (h + 1)) := by
  refine q_of ?_
  simp only [J_X12_frame, q_g, q_b, q_let, q_ite, q_some, z32, z64, true_or, or_true, true_and, and_true]
  refine q_eq (s_X12_areNumbers (by omega)) ?_
  rw [if_pos hx]
  refine ⟨by decide, fun h9 => by omega, fun _ => ⟨by omega, fun h9 => by omega, fun _ => ?_⟩⟩
  simp only [J_X12_frame_29, q_g, q_b, q_let, q_ite, q_some, z32, z64, true_or, or_true, true_and, and_true]
  refine q_eq s_holds_0 ?_
  dsimp only
  simp (disch := omega) only [q_up_row, z_up_at, q_up_ne, hh]
  exact ⟨by decide, fun _ => ⟨by omega, by omega, by omega, trivial⟩, fun h9 => absurd trivial h9⟩
