-- ACT: every kind; what is refused changes nothing
theorem L_acc {v W e : Int} {s1 : z_St} {r : Int × z_St} (h : q_acc v s1 r) (hl : q_LW W e s1) : r.1 = v ∧ q_L W e r.2 := ⟨h.1, h.2.1, q_LW_row hl (fun y hy => h.2.2 y (by omega) (by omega) (by omega) (by omega) (by omega))⟩
def q_act (g : z_St) (e : Int) (r : Int × z_St) : Prop := q_rfs g r ∨ ((-1000 < r.1 ∧ r.1 ≤ 100000) ∧ q_L 2 (e + 1) r.2)
theorem act_n {g : z_St} {e : Int} {X : Option (Int × z_St)} (h : q_ok X (q_rfs g)) : q_ok X (q_act g e) := q_mono h (fun _ a => Or.inl a)
theorem act_y {g : z_St} {e v : Int} {s1 : z_St} {X : Option (Int × z_St)} (h : q_ok X (q_acc v s1)) (hv : -1000 < v ∧ v ≤ 100000) (hl : q_LW 2 (e + 1) s1) : q_ok X (q_act g e) := by
  refine q_mono h ?_
  intro r hr
  obtain ⟨a, b⟩ := L_acc hr hl
  exact Or.inr ⟨by omega, b⟩
theorem t_frame {g st : z_St} {e : Int} (h : q_INV g st) (hl : q_L 2 e st) (h5 : g 168 2 ≤ 5) {x1 x2 x3 : Int} (b1 : -20 ≤ x1 ∧ x1 ≤ 20) (b2 : -20 ≤ x2 ∧ x2 ≤ 20) (b3 : (-20 ≤ x3 ∧ x3 ≤ 20) ∨ x3 = 30001) : q_ok (J_L_does 0 x1 x2 x3 0 st) (q_act g e) := by
  have hB := h.2.1
  have hf1 := hB.1.1
  have d := d_frame h (x1 := x1) (x2 := x2) (x3 := x3) (d := 0) ⟨by omega, by omega⟩ ⟨by omega, by omega⟩ ⟨by omega, by omega⟩
  by_cases c : q_tri x1 x2 x3 ∧ g 168 2 < 16
  · refine act_y (d.1 c) (by omega) ?_
    have c3 := c.1.2.2
    have l0 := q_LW_e hl.2 (show e ≤ e + 1 by omega)
    refine q_LW_up (q_LW_up (q_LW_up (q_LW_up l0 ?_ ?_ ?_ ?_ ?_ ?_) ?_ ?_ ?_ ?_ ?_ ?_) ?_ ?_ ?_ ?_ ?_ ?_) ?_ ?_ ?_ ?_ ?_ ?_ <;> (intros; omega)
  · exact act_n (d.2 c)
theorem t_shift {g st : z_St} {e : Int} (h : q_INV g st) (hl : q_L 2 e st) {x1 x2 x3 : Int} (b1 : 0 ≤ x1 ∧ x1 ≤ 100) (b2 : 0 ≤ x2 ∧ x2 ≤ 100) (b3 : -60 ≤ x3 ∧ x3 ≤ 60) : q_ok (J_L_does 2 x1 x2 x3 0 st) (q_act g e) := by
  have hC := h.2.2.1
  have d := d_shift h (x1 := x1) (x2 := x2) (x3 := x3) (d := 0) ⟨by omega, by omega⟩ ⟨by omega, by omega⟩ ⟨by omega, by omega⟩
  by_cases c : (0 ≤ x1 ∧ x1 ≤ 3) ∧ (0 ≤ x2 ∧ x2 ≤ 2) ∧ -30000 ≤ x3 ∧ x3 ≤ 30000
  · have sm := hl.2.2.2.2.2.1 x1 x2 (by omega) (by omega) (by omega) (by omega)
    rw [hC.2.1.2 x1 x2 (by omega) (by omega) (by omega) (by omega)] at sm
    refine act_y (d.1 c) (by omega) ?_
    have l0 := q_LW_e hl.2 (show e ≤ e + 1 by omega)
    refine q_LW_up l0 ?_ ?_ ?_ ?_ ?_ ?_ <;> (intros; omega)
  · exact act_n (d.2 c)
theorem t_question {g st : z_St} {e : Int} (h : q_INV g st) (hl : q_L 2 e st) {x1 x2 x3 x4 : Int} (b1 : 0 ≤ x1 ∧ x1 ≤ 100) (b2 : 0 ≤ x2 ∧ x2 ≤ 100) (b3 : 0 ≤ x3 ∧ x3 ≤ 100) (b4 : -20 ≤ x4 ∧ x4 ≤ 20) : q_ok (J_L_does 4 x1 x2 x3 x4 st) (q_act g e) := by
  have hB := h.2.1
  have d := d_question h (x1 := x1) (x2 := x2) (x3 := x3) (x4 := x4) ⟨by omega, by omega⟩ ⟨by omega, by omega⟩ ⟨by omega, by omega⟩ ⟨by omega, by omega⟩
  by_cases c : (0 ≤ x1 ∧ x1 < g 168 11) ∧ ((0 ≤ x2 ∧ x2 ≤ 1) ∧ (0 ≤ x3 ∧ x3 ≤ 63) ∧ (-3000 ≤ x4 ∧ x4 ≤ 3000)) ∧ g 173 x1 < 3
  · have hn := hB.2.2.1.1
    have ha := hB.2.2.1.2.2.2.1 x1 (by omega) (by omega)
    refine act_y (d.1 c) (by omega) ?_
    have l0 := q_LW_e hl.2 (show e ≤ e + 1 by omega)
    refine q_LW_up (q_LW_up (q_LW_up (q_LW_up l0 ?_ ?_ ?_ ?_ ?_ ?_) ?_ ?_ ?_ ?_ ?_ ?_) ?_ ?_ ?_ ?_ ?_ ?_) ?_ ?_ ?_ ?_ ?_ ?_ <;> (intros; omega)
  · exact act_n (d.2 c)
theorem t_speak {g st : z_St} {e : Int} (h : q_INV g st) (hl : q_L 2 e st) {x : Int} (b1 : 0 ≤ x ∧ x ≤ 100) : q_ok (J_L_does 1 x 0 0 0 st) (q_act g e) := by
  have hB := h.2.1
  have hs := hB.2.1.1
  have d := d_speak h (x := x) (b := 0) (c := 0) (d := 0) ⟨by omega, by omega⟩
  by_cases c : 0 ≤ x ∧ x ≤ 3
  · refine act_y (d.1 c) (by omega) ?_
    have l0 := q_LW_e hl.2 (show e ≤ e + 1 by omega)
    refine q_LW_up l0 ?_ ?_ ?_ ?_ ?_ ?_ <;> (intros; omega)
  · exact act_n (d.2 c)
theorem i2cv_id {x : Int} (h : 0 ≤ x ∧ x < 128) : z_i2cv x = x := by
  have k : ∀ n : Fin 128, z_i2cv (n.val : Int) = (n.val : Int) := by decide +kernel
  have := k ⟨x.toNat, by omega⟩
  dsimp only at this
  rw [show ((x.toNat : Nat) : Int) = x by omega] at this
  exact this
theorem t_type {g st : z_St} {e : Int} (h : q_INV g st) (hl : q_L 2 e st) {x : Int} (b1 : 0 ≤ x ∧ x < 128) : q_ok (J_L_does 5 x 0 0 0 st) (q_act g e) := by
  have hB := h.2.1
  have ht := hB.2.2.2.1.1
  have d := d_type h (x := x) (b := 0) (c := 0) (d := 0) ⟨by omega, by omega⟩ (i2cv_id (by omega))
  by_cases c : 97 ≤ x ∧ x ≤ 102 ∧ g 168 13 < 4
  · refine act_y (d.1 c) (by omega) ?_
    have l0 := q_LW_e hl.2 (show e ≤ e + 1 by omega)
    refine q_LW_up (q_LW_up l0 ?_ ?_ ?_ ?_ ?_ ?_) ?_ ?_ ?_ ?_ ?_ ?_ <;> (intros; omega)
  · exact act_n (d.2 c)
theorem t_back {g st : z_St} {e : Int} (h : q_INV g st) (hl : q_L 2 e st) {x : Int} (b1 : 0 ≤ x ∧ x ≤ 1000000) : q_ok (J_L_does 12 x 0 0 0 st) (q_act g e) := by
  have hB := h.2.1
  have hb := hB.2.2.2.2.2.1
  have hb2 := hB.2.2.2.2.2.2
  have d := d_back h (x := x) (b := 0) (c := 0) (d := 0) ⟨by omega, by omega⟩
  by_cases c : 0 ≤ x ∧ x ≤ 99999
  · refine act_y (d.1 c) (by unfold q_Rb at hb; unfold q_Rp at hb2; omega) ?_
    have l0 := q_LW_e hl.2 (show e ≤ e + 1 by omega)
    refine q_LW_up l0 ?_ ?_ ?_ ?_ ?_ ?_ <;> (intros; omega)
  · exact act_n (d.2 c)
theorem t_factor {g st : z_St} {e : Int} (h : q_INV g st) (hl : q_L 2 e st) {x : Int} (b1 : 0 ≤ x ∧ x ≤ 1000000) : q_ok (J_L_does 13 x 0 0 0 st) (q_act g e) := by
  have hB := h.2.1
  have hb := hB.2.2.2.2.2.1
  have hb2 := hB.2.2.2.2.2.2
  have d := d_factor h (x := x) (b := 0) (c := 0) (d := 0) ⟨by omega, by omega⟩
  by_cases c : 0 ≤ x ∧ x ≤ 99
  · refine act_y (d.1 c) (by unfold q_Rb at hb; unfold q_Rp at hb2; omega) ?_
    have l0 := q_LW_e hl.2 (show e ≤ e + 1 by omega)
    refine q_LW_up l0 ?_ ?_ ?_ ?_ ?_ ?_ <;> (intros; omega)
  · exact act_n (d.2 c)
theorem LW_ays {W e : Int} {st : z_St} (hl : q_LW W e st) {w x n k : Int} (hw : 0 ≤ w ∧ w < 5) (hk : 0 ≤ k ∧ k ≤ 1) : q_LW W e (q_ays st w x n k) := by
  obtain ⟨s1, s2, s3, s4, s5⟩ := q_ays_spec (st := st) (x := x) (n := n) hw hk
  obtain ⟨l1, l2, l3, l4⟩ := hl
  refine ⟨by rw [s1 1 (by decide) (by decide) (by decide)]; exact l1, by rw [s2 4 (by decide)]; exact l2, by rw [s1 89 (by decide) (by decide) (by decide)]; exact l3, fun i w p q r s => ?_, fun i w p q r s => ?_, fun s w p q r t => ?_⟩
  · rw [s1 (3 + i) (by omega) (by omega) (by omega)]; exact l4.1 i w p q r s
  · rw [s1 (20 + i) (by omega) (by omega) (by omega)]; exact l4.2.1 i w p q r s
  · rw [s1 (29 + 5 * s + 1) (by omega) (by omega) (by omega), s1 (29 + 5 * s + 4) (by omega) (by omega) (by omega)]; exact l4.2.2 s w p q r t
theorem t_word {g st : z_St} {e : Int} (h : q_INV g st) (hl : q_L 2 e st) {x : Int} (b1 : 0 ≤ x ∧ x ≤ 1000000) : q_ok (J_L_does 6 x 0 0 0 st) (q_act g e) := by
  have hB := h.2.1
  have hw := hB.2.2.2.2.1.1
  have l24 := hl.2.2.1
  have e24 := h.2.2.1.2.2.2.2.1.1
  have d := d_word h (x := x) (b := 0) (c := 0) (d := 0) ⟨by omega, by omega⟩
  by_cases c : (0 ≤ x ∧ x ≤ 9999) ∧ q_can g ∧ g 168 18 < 5
  · refine act_y (d.1 c) (by omega) ?_
    have c3 := c.2.2
    have l0 := LW_ays (x := x) (n := g 168 13) (q_LW_e hl.2 (show e ≤ e + 1 by omega)) (w := g 168 18) (k := 0) (by omega) (by decide)
    refine q_LW_up l0 ?_ ?_ ?_ ?_ ?_ ?_ <;> (intros; omega)
  · exact act_n (d.2 c)
theorem t_saying {g st : z_St} {e : Int} (h : q_INV g st) (hl : q_L 2 e st) {w x : Int} (b1 : 0 ≤ w ∧ w ≤ 100) (b2 : 0 ≤ x ∧ x ≤ 1000000) : q_ok (J_L_does 7 w x 0 0 st) (q_act g e) := by
  have hB := h.2.1
  have hw := hB.2.2.2.2.1.1
  have ht := hB.2.2.2.1.1
  have d := d_saying h (w := w) (x := x) (c0 := 0) (d := 0) ⟨by omega, by omega⟩ ⟨by omega, by omega⟩
  by_cases c : (0 ≤ w ∧ w < g 168 18) ∧ (0 ≤ x ∧ x ≤ 9999) ∧ q_can g ∧ g 178 w < 2
  · have hk := hB.2.2.2.2.1.2.1 w (by omega) (by omega)
    have c3 := c.2.2.2
    exact act_y (d.1 c) (by omega) (LW_ays (q_LW_e hl.2 (show e ≤ e + 1 by omega)) (by omega) (by omega))
  · exact act_n (d.2 c)
theorem t_learn {g st : z_St} {e : Int} (h : q_INV g st) (hl : q_L 2 e st) (he : 0 ≤ e ∧ e ≤ 500) {x : Int} (b1 : 0 ≤ x ∧ x ≤ 1000000) : q_ok (J_L_does 11 x 0 0 0 st) (q_act g e) := by
  have hC := h.2.2.1
  have l3 := hl.2.2.2.1
  have e89 := hC.2.2.2.2.2.1
  have d := d_learn h (by omega) (x := x) (b := 0) (c := 0) (d := 0) ⟨by omega, by omega⟩
  by_cases c : q_isRow g x
  · refine q_mono (d.1 c) ?_
    rintro r ⟨a1, a2, a3, a4⟩
    refine Or.inr ⟨by omega, a2, ?_⟩
    obtain ⟨l1, l2, l3, l4⟩ := hl.2
    refine ⟨by rw [a4 1 (by decide) (by decide)]; exact l1, by rw [a4 24 (by decide) (by decide)]; exact l2, by rw [a3]; omega, fun i w p q r s => ?_, fun i w p q r s => ?_, fun s w p q r t => ?_⟩
    · rw [a4 (3 + i) (by omega) (by omega)]; exact l4.1 i w p q r s
    · rw [a4 (20 + i) (by omega) (by omega)]; exact l4.2.1 i w p q r s
    · rw [a4 (29 + 5 * s + 1) (by omega) (by omega), a4 (29 + 5 * s + 4) (by omega) (by omega)]; exact l4.2.2 s w p q r t
  · exact act_n (d.2 c)
theorem act_b {g : z_St} {e : Int} {X : Option (Int × z_St)} (h : q_ok X (q_act g e)) : q_ok (z_b X fun r => some (r.1, r.2)) (q_act g e) := by
  rw [q_b]
  exact q_mono h (fun r hr => ⟨_, rfl, hr⟩)
theorem s_act {g st : z_St} {e : Int} (h : q_INV g st) (hl : q_L 2 e st) (he : 0 ≤ e ∧ e ≤ 500) {x1 x2 x3 : Int} (h3 : 0 ≤ x3 ∧ x3 ≤ 9) (h5 : x3 = 0 → g 168 2 ≤ 5) : q_ok (J_L_act x1 x2 x3 st) (q_act g e) := by
  have hB := h.2.1
  have l24 := hl.2.2.1
  have e24 := h.2.2.1.2.2.2.2.1.1
  unfold J_L_act
  rw [q_g]
  refine ⟨⟨by omega, by omega⟩, ?_⟩
  by_cases c0 : x3 = 0
  · rw [if_pos c0]
    refine low_eq (by decide) (fun r1 p1 => ?_)
    rw [q_g]
    refine ⟨⟨by omega, by omega⟩, ?_⟩
    refine low_eq (by decide) (fun r2 p2 => ?_)
    refine low_eq (by decide) (fun r3 p3 => ?_)
    rw [q_g]
    refine ⟨⟨by omega, by omega⟩, ?_⟩
    by_cases c : r3 = 0
    · rw [if_pos c]
      exact act_b (t_frame h hl (h5 c0) (by omega) (by omega) (Or.inr rfl))
    · rw [if_neg c]
      refine low_eq (by decide) (fun r5 p5 => ?_)
      exact act_b (t_frame h hl (h5 c0) (by omega) (by omega) (Or.inl (by omega)))
  rw [if_neg c0]
  by_cases c1 : x3 = 1
  · rw [if_pos c1]
    refine low_eq (by decide) (fun r1 p1 => ?_)
    rw [q_g]
    refine ⟨⟨by omega, by omega⟩, ?_⟩
    refine low_eq (by decide) (fun r2 p2 => ?_)
    refine low_eq (by decide) (fun r3 p3 => ?_)
    exact act_b (t_shift h hl (by omega) (by omega) (by omega))
  rw [if_neg c1]
  by_cases c2 : x3 = 2
  · rw [if_pos c2]
    refine low_eq (by decide) (fun r1 p1 => ?_)
    rw [q_g]
    refine ⟨⟨by omega, by omega⟩, ?_⟩
    refine low_eq (by decide) (fun r2 p2 => ?_)
    refine low_eq (by decide) (fun r3 p3 => ?_)
    refine low_eq (by decide) (fun r4 p4 => ?_)
    exact act_b (t_question h hl (by omega) (by omega) (by omega) (by omega))
  rw [if_neg c2]
  by_cases c3 : x3 = 3
  · rw [if_pos c3]
    refine low_eq (by decide) (fun r1 p1 => ?_)
    rw [q_g]
    refine ⟨⟨by omega, by omega⟩, ?_⟩
    by_cases c : r1 = 0
    · rw [if_pos c]
      refine low_eq (by decide) (fun r2 p2 => ?_)
      rw [q_g]
      refine ⟨⟨by omega, by omega⟩, ?_⟩
      exact act_b (ask_of (t_learn h hl he (by omega)))
    · rw [if_neg c, q_b]
      refine s_row hB ⟨by decide, by omega⟩ (fun r2 p2 p3 => ?_)
      rw [q_g]
      refine ⟨⟨by omega, by omega⟩, ?_⟩
      exact act_b (ask_of (t_learn h hl he (by omega)))
  rw [if_neg c3]
  by_cases c4 : x3 = 4
  · rw [if_pos c4]
    refine low_eq (by decide) (fun r1 p1 => ?_)
    rw [q_g]
    refine ⟨⟨by omega, by omega⟩, ?_⟩
    by_cases c : r1 = 0
    · rw [if_pos c]
      refine low_eq (by decide) (fun r2 p2 => ?_)
      rw [q_g]
      exact ⟨⟨by omega, by omega⟩, act_b (ask_of (t_back h hl (by omega)))⟩
    · rw [if_neg c]
      refine low_eq (by decide) (fun r2 p2 => ?_)
      rw [q_g]
      exact ⟨⟨by omega, by omega⟩, act_b (ask_of (t_back h hl (by omega)))⟩
  rw [if_neg c4]
  by_cases c5 : x3 = 5
  · rw [if_pos c5]
    refine low_eq (by decide) (fun r1 p1 => ?_)
    rw [q_g]
    refine ⟨⟨by omega, by omega⟩, ?_⟩
    by_cases c : r1 = 0
    · rw [if_pos c]
      exact act_b (ask_of (t_factor h hl (by omega)))
    · rw [if_neg c]
      refine low_eq (by decide) (fun r2 p2 => ?_)
      rw [q_g]
      exact ⟨⟨by omega, by omega⟩, act_b (ask_of (t_factor h hl (by omega)))⟩
  rw [if_neg c5]
  by_cases c6 : x3 = 6
  · rw [if_pos c6]
    refine low_eq (by decide) (fun r1 p1 => ?_)
    rw [q_g]
    exact ⟨⟨by omega, by omega⟩, act_b (ask_of (t_type h hl (by omega)))⟩
  rw [if_neg c6]
  by_cases c7 : x3 = 7
  · rw [if_pos c7]
    refine low_eq (by decide) (fun r1 p1 => ?_)
    rw [q_g]
    refine ⟨⟨by omega, by omega⟩, ?_⟩
    by_cases c : r1 = 0
    · rw [if_pos c]
      exact act_b (ask_of (t_word h hl (by omega)))
    · rw [if_neg c]
      refine low_eq (by decide) (fun r2 p2 => ?_)
      rw [q_g]
      exact ⟨⟨by omega, by omega⟩, act_b (ask_of (t_word h hl (by omega)))⟩
  rw [if_neg c7]
  by_cases c8 : x3 = 8
  · rw [if_pos c8]
    refine low_eq (by decide) (fun r1 p1 => ?_)
    rw [q_g]
    refine ⟨⟨by omega, by omega⟩, ?_⟩
    refine low_eq (by decide) (fun r2 p2 => ?_)
    exact act_b (ask_of (t_saying h hl (by omega) (by omega)))
  rw [if_neg c8]
  refine low_eq (by decide) (fun r1 p1 => ?_)
  rw [q_g]
  exact ⟨⟨by omega, by omega⟩, act_b (ask_of (t_speak h hl (by omega)))⟩
theorem pt_of {g s : z_St} (h : q_INV g s) : z_pt s := by
  have := h.2.2.2.2.2.2.2
  unfold q_ptr at this
  omega
theorem s_tst {g st : z_St} {e : Int} (h : q_INV g st) (hl : q_L 2 e st) (he : 0 ≤ e ∧ e ≤ 500) {x4 x5 x6 : Int} (h3 : 0 ≤ x6 ∧ x6 ≤ 9) (h5 : x6 = 0 → g 168 2 ≤ 5) : q_ok (J_L_tst x4 x5 x6 st) (q_la 2 (e + 1)) := by
  have hB := h.2.1
  unfold J_L_tst
  rw [q_b]
  refine q_mono (s_tell h) ?_
  rintro t1 ⟨i1, v1⟩
  rw [q_g]
  refine ⟨pt_of i1, ?_⟩
  rw [q_b]
  refine q_mono (s_act i1 (q_L_of h i1 hl) he h3 h5) ?_
  rintro ⟨v, s2⟩ hr
  dsimp only
  rcases hr with ⟨i2, n1, n2⟩ | ⟨⟨n1, n2⟩, l2⟩
  · dsimp only at i2 n1 n2
    rw [q_g, if_neg (by omega)]
    refine ⟨⟨⟨by omega, by omega⟩, pt_of i2⟩, ?_⟩
    rw [q_b]
    refine q_mono (s_tell i2) ?_
    rintro t2 ⟨i3, v3⟩
    rw [q_g]
    refine ⟨⟨pt_of i3, fun q hq => ?_⟩, _, rfl, ?_, ⟨g, i3⟩, q_LW_e (q_LW_of h i3 hl.2) (by omega)⟩
    · rw [v1 q (by omega) (by omega), v3 q (by omega) (by omega)]
      exact ⟨tV_64 hB (by omega), tV_64 hB (by omega)⟩
    · exact if_pos (fun q hq => by rw [v1 q (by omega) (by omega), v3 q (by omega) (by omega)])
  · dsimp only at n1 n2 l2
    obtain ⟨g2, i2⟩ := l2.1
    rw [q_g, if_pos n1]
    exact ⟨⟨⟨by omega, by omega⟩, pt_of i2⟩, _, rfl, rfl, l2⟩
