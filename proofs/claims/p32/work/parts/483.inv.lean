-- THE INVARIANT
def q_cT (g st : z_St) : Prop := st 99 4 = 0 ∨ (st 99 4 = 1 ∧ q_TC g st)
def q_cR (g st : z_St) : Prop := st 134 9 = 0 ∨ (st 134 9 = 1 ∧ q_RC g st ∧ (st 134 10 = 0 ∨ (st 134 10 = 1 ∧ q_ord g st)))
def q_cL (g st : z_St) : Prop := st 144 5 = 0 ∨ (st 144 5 = 1 ∧ q_LC g st)
def q_cP (g st : z_St) : Prop := st 148 3 = 0 ∨ (st 148 3 = 1 ∧ ∀ b n : Nat, q_bestRow g b n → q_pC g n (q_many n).toNat st)
def q_INV (g st : z_St) : Prop := q_same g st ∧ q_RB g ∧ q_C g st ∧ q_cT g st ∧ q_cR g st ∧ q_cL g st ∧ q_cP g st ∧ q_ptr (st 134 3) (st 134 4)
theorem q_RC_of {g st st' : z_St} (h : q_RC g st) (k : ∀ x, 134 ≤ x → x ≤ 136 → ∀ j, (x = 134 → 5 ≤ j ∧ j ≤ 8) → st' x j = st x j) : q_RC g st' := by
  obtain ⟨r1, r2, r3, r4, r5⟩ := h
  refine ⟨?_, ?_, ?_, ?_, fun i n hn => ⟨?_, ?_⟩⟩
  · rw [k 134 (by decide) (by decide) 5 (by decide)]; exact r1
  · rw [k 134 (by decide) (by decide) 6 (by decide)]; exact r2
  · rw [k 134 (by decide) (by decide) 7 (by decide)]; exact r3
  · rw [k 134 (by decide) (by decide) 8 (by decide)]; exact r4
  · rw [k 135 (by decide) (by decide) _ (by omega)]; exact (r5 i n hn).1
  · rw [k 136 (by decide) (by decide) _ (by omega)]; exact (r5 i n hn).2
theorem q_ord_of {g st st' : z_St} (h : q_ord g st) (k1 : st' 134 3 = st 134 3 ∧ st' 134 4 = st 134 4) (k2 : st' 138 = st 138 ∧ st' 139 = st 139) : q_ord g st' := by
  obtain ⟨a, b, h1, h2, h3, h4⟩ := h
  refine ⟨a, b, h1, by rw [k1.1]; exact h2, by rw [k1.2]; exact h3, fun k hk => ?_⟩
  have : st' a = st a := by
    unfold q_ptr at h1
    rcases h1 with ⟨rfl, _⟩ | ⟨rfl, _⟩
    · exact k2.1
    · exact k2.2
  rw [this]; exact h4 k hk
theorem q_LC_of {g st st' : z_St} (h : q_LC g st) (k1 : st' 144 3 = st 144 3 ∧ st' 144 4 = st 144 4) (k2 : st' 145 = st 145) : q_LC g st' := by
  refine ⟨⟨by rw [k1.1]; exact h.1.1, by rw [k1.2]; exact h.1.2⟩, fun w f t a b c d => ?_⟩
  rw [k2]; exact h.2 w f t a b c d
theorem q_pC_of {g st st' : z_St} {n K : Nat} (h : q_pC g n K st) (k : ∀ x, 150 ≤ x → x ≤ 155 → st' x = st x) : q_pC g n K st' := fun a i b c d e f => by
  rw [k _ (by omega) (by omega)]; exact h a i b c d e f
/-- the class worked something out: what it left as it was -/
def q_cl (st0 st : z_St) : Prop := (∀ x, (x < 61 ∨ (168 ≤ x ∧ x ≤ 199)) → st x = st0 x) ∧ q_D st0 st
theorem q_cl_refl {st : z_St} : q_cl st st := ⟨fun _ _ => rfl, q_D_refl st⟩
theorem q_cl_trans {a b c : z_St} (h : q_cl a b) (k : q_cl b c) : q_cl a c := ⟨fun x p => (k.1 x p).trans (h.1 x p), q_D_trans h.2 k.2⟩
theorem q_same_cl {g a b : z_St} (h : q_same g a) (k : q_cl a b) : q_same g b := q_same_of h (fun x p q => k.1 x (by omega))
theorem s_readyTable {g st0 : z_St} (h : q_INV g st0) : q_ok (J_X11_readyTable st0) (fun st => q_INV g st ∧ q_TC g st ∧ st 99 4 = 1 ∧ q_cl st0 st ∧ ∀ x, ¬ q_isT x → st x = st0 x) := by
  obtain ⟨hS, hB, hC, hT, hR, hL, hP, hptr⟩ := h
  simp only [J_X11_readyTable, J_X11_readyTable_29, q_g, q_b, q_let, q_ite, q_some, z32, z64, true_or, or_true, true_and, and_true]
  have h01 : st0 99 4 = 0 ∨ st0 99 4 = 1 := by
    rcases hT with h | ⟨h, _⟩
    · exact Or.inl h
    · exact Or.inr h
  refine ⟨by omega, fun h0 => ?_, fun h0 => ?_⟩
  · refine q_mono (s_X0_fill hC hB) ?_
    rintro st1 ⟨a1, a2, a3⟩
    have e : ∀ x, 134 ≤ x → st1 x = st0 x := fun x hx => a1 x (by unfold q_isT; omega)
    have hcl : q_cl st0 st1 := ⟨fun x hx => a1 x (by unfold q_isT; omega), fun x p q r => a1 x (by unfold q_isT; omega)⟩
    refine ⟨⟨q_same_cl hS hcl, hB, q_C_D hC hcl.2, Or.inr ⟨a3, a2⟩, ?_, ?_, ?_, ?_⟩, a2, a3, hcl, a1⟩
    · rcases hR with k | ⟨k1, k2, k3⟩
      · exact Or.inl (by rw [e 134 (by decide)]; exact k)
      · refine Or.inr ⟨by rw [e 134 (by decide)]; exact k1, q_RC_of k2 (fun x p q j _ => by rw [e x p]), ?_⟩
        rcases k3 with k3 | ⟨k3, k4⟩
        · exact Or.inl (by rw [e 134 (by decide)]; exact k3)
        · exact Or.inr ⟨by rw [e 134 (by decide)]; exact k3, q_ord_of k4 ⟨by rw [e 134 (by decide)], by rw [e 134 (by decide)]⟩ ⟨e 138 (by decide), e 139 (by decide)⟩⟩
    · rcases hL with k | ⟨k1, k2⟩
      · exact Or.inl (by rw [e 144 (by decide)]; exact k)
      · exact Or.inr ⟨by rw [e 144 (by decide)]; exact k1, q_LC_of k2 ⟨by rw [e 144 (by decide)], by rw [e 144 (by decide)]⟩ (e 145 (by decide))⟩
    · rcases hP with k | ⟨k1, k2⟩
      · exact Or.inl (by rw [e 148 (by decide)]; exact k)
      · exact Or.inr ⟨by rw [e 148 (by decide)]; exact k1, fun b n hb => q_pC_of (k2 b n hb) (fun x p q => e x (by omega))⟩
    · rw [e 134 (by decide)]; exact hptr
  · have h1 : st0 99 4 = 1 := by omega
    have hTC : q_TC g st0 := by
      rcases hT with k | ⟨_, k⟩
      · omega
      · exact k
    exact ⟨⟨hS, hB, hC, hT, hR, hL, hP, hptr⟩, hTC, h1, q_cl_refl, fun _ _ => by first | rfl | trivial⟩
theorem q_tbl_or {g st0 : z_St} (h : q_INV g st0) : J_X11_readyRows st0 = z_b (J_X11_readyTable st0) J_X11_readyRows_29 := by
  unfold J_X11_readyRows J_X11_readyTable J_X11_readyTable_29 z_g z_b
  split
  · split
    · cases J_X0_fill st0 <;> rfl
    · rfl
  · rfl
theorem s_readyRows {g st0 : z_St} (h : q_INV g st0) : q_ok (J_X11_readyRows st0) (fun st => q_INV g st ∧ q_TC g st ∧ q_RC g st ∧ q_cl st0 st ∧ st 134 9 = 1 ∧ ∀ x, ¬ q_isT x → ¬ q_isR x → st x = st0 x) := by
  rw [q_tbl_or h]
  simp only [q_g, q_b, q_let, q_ite, q_some, z32, z64, true_or, or_true, true_and, and_true]
  refine q_mono (s_readyTable h) ?_
  rintro st1 ⟨⟨hS, hB, hC, hT, hR, hL, hP, hptr⟩, hTC, h994, hcl, hfr⟩
  simp only [J_X11_readyRows_29, J_X11_readyRows_64, q_g, q_b, q_let, q_ite, q_some, z32, z64, true_or, or_true, true_and, and_true]
  have h01 : st1 134 9 = 0 ∨ st1 134 9 = 1 := by
    rcases hR with h | ⟨h, _⟩
    · exact Or.inl h
    · exact Or.inr h
  refine ⟨by omega, fun h0 => ?_, fun h0 => ?_⟩
  · rw [hC.2.2.2.2.1.1, hC.1.1]
    refine q_mono (s_X5_fill hB hTC) ?_
    rintro st2 ⟨b1, b2, b3, b4, b5⟩
    have e : ∀ x, (x < 134 ∨ 137 < x) → st2 x = st1 x := fun x hx => b1 x (by unfold q_isR; omega)
    have hcl2 : q_cl st1 st2 := ⟨fun x hx => e x (by omega), fun x p q r => e x (by omega)⟩
    have hTC2 : q_TC g st2 := q_TC_of hTC hB (fun x a b => by unfold q_isT at a; exact e x (by omega))
    refine ⟨⟨q_same_cl hS hcl2, hB, q_C_D hC hcl2.2, Or.inr ⟨by rw [e 99 (by decide)]; exact h994, hTC2⟩, Or.inr ⟨b4, b3, Or.inl b5⟩, ?_, ?_, ?_⟩, hTC2, b3, q_cl_trans hcl hcl2, b4, fun x p q => (b1 x q).trans (hfr x p)⟩
    · rcases hL with k | ⟨k1, k2⟩
      · exact Or.inl (by rw [e 144 (by decide)]; exact k)
      · exact Or.inr ⟨by rw [e 144 (by decide)]; exact k1, q_LC_of k2 ⟨by rw [e 144 (by decide)], by rw [e 144 (by decide)]⟩ (e 145 (by decide))⟩
    · rcases hP with k | ⟨k1, k2⟩
      · exact Or.inl (by rw [e 148 (by decide)]; exact k)
      · exact Or.inr ⟨by rw [e 148 (by decide)]; exact k1, fun b n hb => q_pC_of (k2 b n hb) (fun x p q => e x (by omega))⟩
    · rw [b2 3 (by decide), b2 4 (by decide)]; exact hptr
  · have hRC : st1 134 9 = 1 ∧ q_RC g st1 := by
      rcases hR with k | ⟨k1, k2, _⟩
      · omega
      · exact ⟨k1, k2⟩
    exact ⟨⟨hS, hB, hC, hT, hR, hL, hP, hptr⟩, hTC, hRC.2, hcl, hRC.1, fun x p _ => hfr x p⟩
theorem q_bw_cnt {g : z_St} : e_cnt (fun k => (q_wl g k).isSome) (q_len g) = 0 ↔ q_bw g = none := by
  constructor
  · intro h
    refine e_mins_allnone fun i hi => ?_
    cases hw : q_wl g i with
    | none => rfl
    | some x =>
      have h1 : (fun k => (q_wl g k).isSome) i = true := by show (q_wl g i).isSome = true; rw [hw]; rfl
      have h2 := e_cnt_le2 (f := fun k => (q_wl g k).isSome) (a := i + 1) (b := q_len g) hi
      have h3 : e_cnt (fun k => (q_wl g k).isSome) (i + 1) = e_cnt (fun k => (q_wl g k).isSome) i + 1 := e_cnt_s h1
      omega
  · intro h
    refine e_cnt_zero fun i hi => ?_
    cases hw : q_wl g i with
    | none => rfl
    | some x =>
      obtain ⟨b, hb, _⟩ := e_mins_le (f := q_wl g) hi x hw
      have hb2 : q_bw g = some b := hb
      rw [h] at hb2; cases hb2
theorem s_checkBest {g st0 : z_St} (h : q_INV g st0) : q_ok (J_X11_checkBest st0) (fun r => match r with
    | .inl st => q_bw g ≠ none ∧ q_INV g st ∧ q_TC g st ∧ q_RC g st ∧ q_cl st0 st
    | .inr q => q_bw g = none ∧ q.1 = 2 ∧ q_INV g q.2 ∧ q_cl st0 q.2) := by
  simp only [J_X11_checkBest, q_g, q_b, q_let, q_ite, q_some, z32, z64, true_or, or_true, true_and, and_true]
  refine q_mono (s_readyRows h) ?_
  rintro st ⟨a1, a2, a3, a4, a5, a6⟩
  have hlen := q_len_le h.2.1
  have hc := e_cnt_le (f := fun k => (q_wl g k).isSome) (q_len g)
  rw [a3.2.2.1]
  refine ⟨by omega, fun h0 => ⟨q_bw_cnt.mp (by omega), a1, a4⟩, fun h0 => ⟨fun hn => h0 (by rw [q_bw_cnt.mpr hn]; rfl), a1, a2, a3, a4⟩⟩
/-- the leader is the best row -/
theorem q_lead_best {g st : z_St} (hR : q_RC g st) (hn : q_bw g ≠ none) : ∃ b n : Nat, st 134 8 = (b : Int) ∧ q_bestRow g b n ∧ st 135 (b : Int) = n := by
  obtain ⟨r1, r2, r3, r4, r5⟩ := hR
  rcases r4 with ⟨h1, h2⟩ | ⟨k, x, h1, h2, h3, h4⟩
  · exact absurd (e_mins_allnone h2) hn
  · have e := List.getElem?_eq_getElem (l := q_rows g) (i := k) h2
    exact ⟨k, _, h1, ⟨e, x, h3, h4⟩, (r5 k _ e).1⟩
theorem s_number0 {g st : z_St} (hB : q_RB g) (hR : q_RC g st) (hn : q_bw g ≠ none) : ∃ b n : Nat, q_bestRow g b n ∧ J_X5_numberAt 0 st = some ((n : Int), st) := by
  obtain ⟨b, n, h1, h2, h3⟩ := q_lead_best hR hn
  have hlen := q_len_le hB
  have hbl : b < q_len g := (List.getElem?_eq_some_iff.mp h2.1).1
  have hc := e_cnt_le (f := fun k => (q_wl g k).isSome) (q_len g)
  have hc0 : e_cnt (fun k => (q_wl g k).isSome) (q_len g) ≠ 0 := fun h => hn (q_bw_cnt.mp h)
  refine ⟨b, n, h2, q_of ?_⟩
  simp only [J_X5_numberAt, J_X5_numberAt_35, q_g, q_b, q_let, q_ite, q_some, z32, z64, true_or, or_true, true_and, and_true]
  rw [hR.2.2.1, h1, h3]
  exact ⟨by omega, fun _ => ⟨by decide, fun _ => ⟨by omega, fun h9 => by omega, fun _ => ⟨by omega, rfl⟩⟩, fun h9 => absurd trivial h9⟩, fun h9 => by omega⟩
