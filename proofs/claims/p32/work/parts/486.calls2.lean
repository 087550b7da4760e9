-- THE CALLS: weightAnew, best, found, arcs, arc, keyword
theorem j_19 {g st : z_St} {f : Int → Int} {i : Int} (h : q_INV g st) (hf : ∀ j, z32 (f j)) : q_ok (JL_19 f i st) (fun st' => q_INV g st') := by
  have hB := h.2.1
  have hck := s_checkRow h.2.2.1 hB (hf (i + 1))
  have hR : ∀ s, q_same g s → q_ok (J_X12_weightAnew (f (i + 1)) s) (fun r => q_K g s r.2 ∧ (q_isRow g (f (i + 1)) → r.2 168 0 = 0 ∧ r.1 = e_I (-1) (q_wt g (f (i + 1)))) ∧ (¬ q_isRow g (f (i + 1)) → r.2 168 0 = 1)) := fun s hs => by
    simp only [J_X12_weightAnew, q_g, q_b, q_let, q_ite, q_some, z32, z64, true_or, or_true, true_and, and_true]
    exact q_mono (s_X12_weight hs hB (hf (i + 1))) (fun r hr => hr)
  by_cases hrow : q_isRow g (f (i + 1))
  · refine j_J (code := 0) (val := e_I (-1) (q_wt g (f (i + 1)))) (by decide) (fun _ => e_I_64 (q_wt_b hB hrow) (by decide)) (l_y (X := J_X11_weightAnew (f (i + 1)) st) ?_ (fun q _ hq => by unfold J_L_weightAnew; rw [hq])) (fun s hs => q_mono (hR s hs.1) (fun q hq => ⟨hq.1, (hq.2.1 hrow).1, fun _ => (hq.2.1 hrow).2⟩))
    unfold J_X11_weightAnew
    refine q_xl (hck.1 hrow) ?_
    simp only [q_g, q_b, q_let, q_ite, q_some, z32, z64, true_or, or_true, true_and, and_true]
    refine q_mono (s_readyTable h) ?_
    rintro st1 ⟨a1, a2, a3, a4, a5⟩
    refine q_mono (s_X6_read (by decide) hrow.1) ?_
    rintro st2 ⟨b1, b2, b3⟩
    have hC2 : q_C g st2 := q_C_D a1.2.2.1 (fun x p q r => b1 x (by omega) (by omega))
    have hT2 : q_TC g st2 := q_TC_of a2 hB (fun x a b => by unfold q_isT at a; exact b1 x (by omega) (by omega))
    have hmb := q_many_bd (f (i + 1))
    have hr1 := hrow.1
    obtain ⟨m, hm⟩ : ∃ m : Nat, q_many (f (i + 1)) = (m : Int) := ⟨(q_many (f (i + 1))).toNat, by omega⟩
    rw [hC2.1.1]
    have htw := s_X11_tryWords hC2 hB hT2 hrow b3 hm 7 0 0 (by omega) (by omega) (by have := hB.1.1; omega)
    rw [Nat.sub_zero, q_wt_R hB hrow hm] at htw
    refine q_eq htw ?_
    refine q_eq (s_orNone (q_wt_b hB hrow) (by decide)) ?_
    refine ⟨_, rfl, ?_, rfl⟩
    -- only 158, 159 were written
    exact q_INV_mv a1 (fun x hx => b1 x (by unfold q_free at hx; omega) (by unfold q_free at hx; omega))
  · refine j_J (code := 1) (val := 0) (by decide) (fun h9 => absurd h9 (by decide)) (l_n (X := J_X11_weightAnew (f (i + 1)) st) (e := 1) (by decide) ?_ (fun q he hq => by unfold J_L_weightAnew; rw [hq]; show (if q.1 = 1 then _ else _) = _; rw [if_pos he])) (fun s hs => q_mono (hR s hs.1) (fun q hq => ⟨hq.1, hq.2.2 hrow, fun h9 => absurd h9 (by decide)⟩))
    unfold J_X11_weightAnew
    exact q_xr (hck.2 hrow) ⟨_, rfl, h, rfl⟩
theorem e_cnt_lt {f h : Nat → Bool} {a : Nat} : ∀ {n : Nat}, (∀ i, i < n → f i = true → h i = true) → e_cnt f n ≤ e_cnt h n ∧ (a < n → h a = true → ¬ f a = true → e_cnt f n < e_cnt h n) := by
  intro n
  induction n with
  | zero => intro _; exact ⟨Nat.le_refl 0, fun h => absurd h (Nat.not_lt_zero _)⟩
  | succ n ih =>
    intro k
    obtain ⟨i1, i2⟩ := ih (fun i hi => k i (by omega))
    have ea : e_cnt f (n + 1) = e_cnt f n + (if f n = true then 1 else 0) := rfl
    have eb : e_cnt h (n + 1) = e_cnt h n + (if h n = true then 1 else 0) := rfl
    refine ⟨?_, fun ha h1 h2 => ?_⟩
    · by_cases hq : f n = true
      · rw [if_pos hq] at ea; rw [if_pos (k n (by omega) hq)] at eb; omega
      · rw [if_neg hq] at ea; omega
    · by_cases e : a = n
      · subst e
        rw [if_neg h2] at ea; rw [if_pos h1] at eb; omega
      · have := i2 (by omega) h1 h2
        by_cases hq : f n = true
        · rw [if_pos hq] at ea; rw [if_pos (k n (by omega) hq)] at eb; omega
        · rw [if_neg hq] at ea; omega
theorem q_ah_iff {g : z_St} {k j : Nat} : q_ah g k j = true ↔ e_I 1000000000000000000 (q_wl g j) < e_I 1000000000000000000 (q_wl g k) ∨ (e_I 1000000000000000000 (q_wl g j) = e_I 1000000000000000000 (q_wl g k) ∧ j < k) := by
  unfold q_ah
  simp only [Bool.or_eq_true, Bool.and_eq_true, decide_eq_true_eq]
theorem q_rank_lt {g : z_St} {k j : Nat} (hj : j < q_len g) (h : q_ah g k j = true) : q_rank g j < q_rank g k := by
  unfold q_rank
  refine (e_cnt_lt (a := j) (fun i hi hq => ?_)).2 hj h (fun hq => ?_)
  · rw [q_ah_iff] at hq h ⊢; omega
  · rw [q_ah_iff] at hq; omega
theorem q_best_uniq {g : z_St} {x v v' : Int} (h : q_best g x v) (h' : q_best g x v') : v = v' := by
  rcases h with ⟨rfl, h1⟩ | ⟨k, n, h1, h2, h3, rfl⟩
  · rcases h' with ⟨rfl, _⟩ | ⟨k', n', k1, k2, k3, rfl⟩
    · rfl
    · exact absurd k3 (h1 k' (List.getElem?_eq_some_iff.mp k1).1 k2)
  · have hk : k < q_len g := (List.getElem?_eq_some_iff.mp h1).1
    rcases h' with ⟨rfl, k1⟩ | ⟨k', n', k1, k2, k3, rfl⟩
    · exact absurd h3 (k1 k hk h2)
    · have hk' : k' < q_len g := (List.getElem?_eq_some_iff.mp k1).1
      have e : k = k' := by
        rcases Nat.lt_trichotomy k k' with c | c | c
        · by_cases hh : q_ah g k' k = true
          · have := q_rank_lt hk hh; omega
          · have : q_ah g k k' = true := by rw [q_ah_iff] at hh ⊢; omega
            have := q_rank_lt hk' this; omega
        · exact c
        · by_cases hh : q_ah g k k' = true
          · have := q_rank_lt hk' hh; omega
          · have : q_ah g k' k = true := by rw [q_ah_iff] at hh ⊢; omega
            have := q_rank_lt hk this; omega
      subst e
      rw [h1] at k1
      rw [Option.some.inj k1]
theorem j_20 {g st : z_St} {f : Int → Int} {i : Int} (h : q_INV g st) (hf : ∀ j, z32 (f j)) : q_ok (JL_20 f i st) (fun st' => q_INV g st') := by
  have hB := h.2.1
  have hx : -2147483648 ≤ f (i + 1) ∧ f (i + 1) ≤ 2147483647 := hf (i + 1)
  by_cases h0 : 0 ≤ f (i + 1)
  · have hX : q_ok (J_X11_best (f (i + 1)) st) (fun r => ∃ q, r = .inl q ∧ q_INV g q.2 ∧ q_best g (f (i + 1)) q.1 ∧ -1 ≤ q.1 ∧ q.1 ≤ 9999) := by
      simp only [J_X11_best, q_g, q_b, q_let, q_ite, q_some, z32, z64, true_or, or_true, true_and, and_true]
      refine ⟨by omega, ?_⟩
      refine q_xl (s_least_y ⟨⟨by omega, by omega⟩, by decide⟩ h0) ?_
      simp only [q_g, q_b, q_let, q_ite, q_some, z32, z64, true_or, or_true, true_and, and_true]
      refine q_mono (s_readyRows h) ?_
      rintro st1 ⟨a1, a2, a3, a4, a5, a6⟩
      refine q_mono (s_numberAt a1 a3 a5 (x := f (i + 1)) (by omega)) ?_
      rintro r ⟨b1, b2, b3⟩
      exact ⟨_, rfl, b1, b2, b3⟩
    obtain ⟨r, e1, q, rfl, e2, e3, e4⟩ := hX
    refine j_I (code := 0) (val := q.1) (by decide) (fun _ => ⟨by omega, by omega⟩) (l_y (X := J_X11_best (f (i + 1)) st) ⟨_, e1, q, rfl, e2, rfl⟩ (fun q9 h9 hq => by unfold J_L_best; rw [hq]; show z_g (z32 q9.1) _ = _; unfold z_g; rw [if_pos (show z32 q9.1 from ⟨by omega, by omega⟩)])) (fun s hs => q_mono (s_X12_best hs.1 hB hx) (fun q9 hq => ⟨hq.1, by rw [hq.2.1, if_neg (by omega)], fun _ => q_best_uniq (hq.2.2 h0) e3⟩))
  · refine j_I (code := 1) (val := 0) (by decide) (fun h9 => absurd h9 (by decide)) (l_n (X := J_X11_best (f (i + 1)) st) (e := 1) (by decide) ?_ (fun q he hq => by unfold J_L_best; rw [hq]; show (if q.1 = 1 then _ else _) = _; rw [if_pos he])) (fun s hs => q_mono (s_X12_best hs.1 hB hx) (fun q hq => ⟨hq.1, by rw [hq.2.1, if_pos (by omega)], fun h9 => absurd h9 (by decide)⟩))
    simp only [J_X11_best, q_g, q_b, q_let, q_ite, q_some, z32, z64, true_or, or_true, true_and, and_true]
    refine ⟨by omega, ?_⟩
    exact q_xr (s_least_n ⟨⟨by omega, by omega⟩, by decide⟩ (by omega)) ⟨_, rfl, h, rfl⟩
