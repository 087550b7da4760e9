-- THE CALLS: class and reference side by side
theorem j_I {g : z_St} {L : Option (Int × z_St)} {R : z_St → Option (Int × z_St)} {code val : Int} (hc : 0 ≤ code ∧ code ≤ 3) (hv : code = 0 → z32 val) (hL : q_ok L (fun r => q_INV g r.2 ∧ r.1 = code ∧ (code = 0 → r.2 199 0 = val))) (hR : ∀ s, q_INV g s → q_ok (R s) (fun q => q_K g s q.2 ∧ q.2 168 0 = code ∧ (code = 0 → q.1 = val))) :
    q_ok (z_b L fun r => z_b (R r.2) fun q => z_b (J_X12_thrown q.2) fun t => z_g ((z32 t ∧ z32 r.1) ∧ t = r.1) <| z_g (r.1 = 0 → z32 q.1 ∧ z64 (q.2 199 0) ∧ z64 q.1 ∧ q.2 199 0 = q.1) <| some q.2) (fun st' => q_INV g st') := by
  rw [q_b]
  refine q_mono hL ?_
  rintro r ⟨a1, a2, a3⟩
  rw [q_b]
  refine q_mono (hR r.2 a1) ?_
  rintro q ⟨b1, b2, b3⟩
  rw [q_b]
  refine q_eq (v := code) (by show some (q.2 168 0) = _; rw [b2]) ?_
  rw [q_g, q_g, q_some, a2]
  refine ⟨⟨⟨⟨by omega, by omega⟩, by omega, by omega⟩, rfl⟩, fun h0 => ?_, q_INV_K a1 b1⟩
  have e1 : q.2 199 0 = val := by rw [b1.1 199 (Or.inr rfl)]; exact a3 h0
  have e2 := b3 h0
  rw [e1, e2]
  obtain ⟨v1, v2⟩ := hv h0
  exact ⟨⟨v1, v2⟩, ⟨by omega, by omega⟩, ⟨by omega, by omega⟩, rfl⟩
theorem j_J {g : z_St} {L : Option (Int × z_St)} {R : z_St → Option (Int × z_St)} {code val : Int} (hc : 0 ≤ code ∧ code ≤ 3) (hv : code = 0 → z64 val) (hL : q_ok L (fun r => q_INV g r.2 ∧ r.1 = code ∧ (code = 0 → r.2 199 0 = val))) (hR : ∀ s, q_INV g s → q_ok (R s) (fun q => q_K g s q.2 ∧ q.2 168 0 = code ∧ (code = 0 → q.1 = val))) :
    q_ok (z_b L fun r => z_b (R r.2) fun q => z_b (J_X12_thrown q.2) fun t => z_g ((z32 t ∧ z32 r.1) ∧ t = r.1) <| z_g (r.1 = 0 → z64 q.1 ∧ z64 (q.2 199 0) ∧ z64 q.1 ∧ q.2 199 0 = q.1) <| some q.2) (fun st' => q_INV g st') := by
  rw [q_b]
  refine q_mono hL ?_
  rintro r ⟨a1, a2, a3⟩
  rw [q_b]
  refine q_mono (hR r.2 a1) ?_
  rintro q ⟨b1, b2, b3⟩
  rw [q_b]
  refine q_eq (v := code) (by show some (q.2 168 0) = _; rw [b2]) ?_
  rw [q_g, q_g, q_some, a2]
  refine ⟨⟨⟨⟨by omega, by omega⟩, by omega, by omega⟩, rfl⟩, fun h0 => ?_, q_INV_K a1 b1⟩
  have e1 : q.2 199 0 = val := by rw [b1.1 199 (Or.inr rfl)]; exact a3 h0
  have e2 := b3 h0
  rw [e1, e2]
  have v1 := hv h0
  exact ⟨v1, v1, v1, rfl⟩
/-- an answer, an exception -/
theorem l_y {g : z_St} {X : Option (z_R (Int × z_St))} {L : Option (Int × z_St)} {val : Int} (hX : q_ok X (fun r => ∃ q, r = .inl q ∧ q_INV g q.2 ∧ q.1 = val)) (hm : ∀ q : Int × z_St, q.1 = val → X = some (.inl q) → L = some (0, z_up q.2 199 0 q.1)) : q_ok L (fun r => q_INV g r.2 ∧ r.1 = 0 ∧ ((0 : Int) = 0 → r.2 199 0 = val)) := by
  obtain ⟨r, h1, q, rfl, h2, h3⟩ := hX
  exact ⟨_, hm q h3 h1, q_INV_199 h2, rfl, fun _ => by show z_up q.2 199 0 q.1 199 0 = val; rw [z_up_at]; exact h3⟩
theorem l_n {g : z_St} {X : Option (z_R (Int × z_St))} {L : Option (Int × z_St)} {e : Nat} {code val : Int} (hcode : ¬ code = 0) (hX : q_ok X (fun r => ∃ q, r = .inr q ∧ q_INV g q.2 ∧ q.1 = e)) (hm : ∀ q : Nat × z_St, q.1 = e → X = some (.inr q) → L = some (code, q.2)) : q_ok L (fun r => q_INV g r.2 ∧ r.1 = code ∧ (code = 0 → r.2 199 0 = val)) := by
  obtain ⟨r, h1, q, rfl, h2, h3⟩ := hX
  exact ⟨_, hm q h3 h1, h2, rfl, fun h9 => absurd h9 hcode⟩
theorem e_I_64 {B : Int} {o : Option Int} (h : e_bd B o) (hB : B ≤ 9223372036854775807) : z64 (e_I (-1) o) := by
  cases o with
  | none => exact ⟨by decide, by decide⟩
  | some x => have := h x rfl; rw [e_I_some]; exact ⟨by omega, by omega⟩
theorem e_told {o : Option Int} {B : Int} (h : e_bd B o) (hB : B < 1000000000000000000) : (if e_I 1000000000000000000 o < 1000000000000000000 then e_I 1000000000000000000 o else -1) = e_I (-1) o := by
  cases o with
  | none => rfl
  | some x => have := h x rfl; rw [e_I_some, e_I_some, if_pos (by omega)]
-- weight, weightAnew
theorem s_X12_weight {g st0 : z_St} (hS : q_same g st0) (hB : q_RB g) {x : Int} (hx : z32 x) : q_ok (J_X12_weight x st0) (fun r => q_K g st0 r.2 ∧ (q_isRow g x → r.2 168 0 = 0 ∧ r.1 = e_I (-1) (q_wt g x)) ∧ (¬ q_isRow g x → r.2 168 0 = 1)) := by
  have hmb := q_many_bd x
  simp only [J_X12_weight, J_X12_weight_20, q_g, q_b, q_let, q_ite, q_some, z32, z64, true_or, or_true, true_and, and_true]
  refine q_mono (s_X12_apart hS hB.2.2.2.2.1 (n := x) (Or.inl rfl) hx) ?_
  rintro ⟨mm, st1⟩ ⟨b1, hc⟩
  dsimp only at b1 hc ⊢
  have hS1 : q_same g st1 := q_same_of hS (fun x a b => b1 x (by omega))
  rcases hc with ⟨c1, c2, c3⟩ | ⟨c1, c2⟩
  · subst c2
    have hc1 := c1.1
    refine ⟨by omega, fun _ => ?_, fun h9 => by omega⟩
    refine q_eq s_holds_0 ?_
    dsimp only
    refine ⟨by decide, fun _ => ?_, fun h9 => absurd rfl h9⟩
    refine q_mono (s_X12_laysTable (q_up_0 hS1) hB) ?_
    rintro st2 ⟨d1, d2⟩
    have hS2 : q_same g st2 := q_same_of (q_up_0 hS1) (fun x a b => d1 x (by omega) (by omega) (by omega))
    refine q_mono (s_X12_weightOf hS2 hB d2 (d := q_dig x) (many := q_many x) (by omega) (fun j p q => ⟨c1.2 j p q, by rw [d1 186 (by decide) (by decide) (by decide), q_up_row (by decide)]; exact c3 j p q⟩)) ?_
    rintro ⟨W, st3⟩ ⟨e1, e2⟩
    dsimp only at e1 e2 ⊢
    subst e2
    have hwb : e_bd 10000000000000 (q_wt g x) := q_W_bd hB (by omega) (fun j a b => c1.2 j a b)
    have hwI := e_I_le (K := 1000000000000000000) hwb (by decide) (by decide)
    have hW : q_W g (q_dig x) (q_many x) = q_wt g x := rfl
    rw [hW]
    refine q_eq (s_X12_told (x1 := e_I 1000000000000000000 (q_wt g x)) (by omega)) ?_
    have r1 : ∀ y, (y < 168 ∨ (168 < y ∧ y < 183) ∨ y = 199) → st3 y = st0 y := fun y hy => by
      rw [e1 y (by omega), d1 y (by omega) (by omega) (by omega), q_up_row (by omega), b1 y (by omega)]
    have r2 : ∀ j, j ≠ 0 → st3 168 j = st0 168 j := fun j hj => by
      rw [e1 168 (by decide), d1 168 (by decide) (by decide) (by decide), z_up_n (by omega), b1 168 (by decide)]
    exact ⟨q_K_of hS r1 (fun j p q => r2 j (by omega)), fun _ => ⟨by rw [e1 168 (by decide), d1 168 (by decide) (by decide) (by decide), z_up_at], e_told hwb (by decide)⟩, fun h9 => absurd c1 h9⟩
  · subst c2
    refine ⟨by decide, fun h9 => absurd h9 (by decide), fun _ => ?_⟩
    refine q_eq (s_holds_p (by decide)) ?_
    dsimp only
    refine ⟨by decide, fun h9 => absurd h9 (by decide), fun _ => ⟨q_K_of hS (fun y hy => by rw [q_up_row (by omega), b1 y (by omega)]) (fun j p q => by rw [z_up_n (by omega), b1 168 (by decide)]), fun h9 => absurd h9 c1, fun _ => z_up_at⟩⟩
theorem q_wt_b {g : z_St} (hB : q_RB g) {x : Int} (h : q_isRow g x) : e_bd 10000000000000 (q_wt g x) := q_W_bd hB (by have := q_many_bd x; omega) (fun j a b => h.2 j a b)
theorem q_isRow_nat {g : z_St} {x : Int} (h : q_isRow g x) : ∃ n : Nat, x = n ∧ 1 ≤ n ∧ n ≤ 9999 := by
  have h1 := h.1
  have := q_many_bd x
  exact ⟨x.toNat, by omega, by omega, by omega⟩
theorem j_18 {g st : z_St} {f : Int → Int} {i : Int} (h : q_INV g st) (hf : ∀ j, z32 (f j)) : q_ok (JL_18 f i st) (fun st' => q_INV g st') := by
  have hB := h.2.1
  have hck := s_checkRow h.2.2.1 hB (hf (i + 1))
  by_cases hrow : q_isRow g (f (i + 1))
  · refine j_J (code := 0) (val := e_I (-1) (q_wt g (f (i + 1)))) (by decide) (fun _ => e_I_64 (q_wt_b hB hrow) (by decide)) (l_y (X := J_X11_weight (f (i + 1)) st) ?_ (fun q _ hq => by unfold J_L_weight; rw [hq])) (fun s hs => q_mono (s_X12_weight hs.1 hB (hf (i + 1))) (fun q hq => ⟨hq.1, (hq.2.1 hrow).1, fun _ => (hq.2.1 hrow).2⟩))
    unfold J_X11_weight
    refine q_xl (hck.1 hrow) ?_
    simp only [q_g, q_b, q_let, q_ite, q_some, z32, z64, true_or, or_true, true_and, and_true]
    refine q_mono (s_readyRows h) ?_
    rintro st1 ⟨a1, a2, a3, a4, a5, a6⟩
    obtain ⟨n, hn, _⟩ := q_isRow_nat hrow
    have hw := s_X5_weightOf hB a3 (n := n) (by rw [← hn]; exact hrow)
    rw [← hn] at hw
    refine q_eq hw ?_
    refine q_eq (s_orNone (q_wt_b hB hrow) (by decide)) ?_
    exact ⟨_, rfl, a1, rfl⟩
  · refine j_J (code := 1) (val := 0) (by decide) (fun h9 => absurd h9 (by decide)) (l_n (X := J_X11_weight (f (i + 1)) st) (e := 1) (by decide) ?_ (fun q he hq => by unfold J_L_weight; rw [hq]; show (if q.1 = 1 then _ else _) = _; rw [if_pos he])) (fun s hs => q_mono (s_X12_weight hs.1 hB (hf (i + 1))) (fun q hq => ⟨hq.1, hq.2.2 hrow, fun h9 => absurd h9 (by decide)⟩))
    unfold J_X11_weight
    exact q_xr (hck.2 hrow) ⟨_, rfl, h, rfl⟩
