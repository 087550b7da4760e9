-- THE CLASS'S TRACK
theorem q_rd_of {id n : Int} {st st' : z_St} (h : q_rd id n st) (h1 : st' id = st id) (h2 : st' (id + 1) = st (id + 1)) : q_rd id n st' := ⟨by rw [h1]; exact h.1, fun k a b => by rw [h2]; exact h.2 k a b⟩
theorem s_X10_fillRests {g st0 : z_St} (hB : q_RB g) (hT : q_TC g st0) {n : Nat} (hn : q_isRow g n) (hrd : q_rd 160 n st0) (hf0 : 0 < g 168 2) :
    q_ok (J_X10_fillRests 160 (g 168 2) st0) (fun st => (∀ x, x ≠ 156 → st x = st0 x) ∧ ∀ k t : Nat, k ≤ (q_many n).toNat → t ≤ g 168 2 → st 156 ((k : Int) * 17 + t) = e_I 1152921504606846976 (q_Rr g (q_dig n) (q_many n).toNat ((q_many n).toNat - k) t)) := by
  have hf1 := hB.1.1
  have hw1 := hB.2.2.2.2.1.1
  have hmb := q_many_bd n
  have hn1 := hn.1
  obtain ⟨m, hm⟩ : ∃ m : Nat, q_many n = (m : Int) := ⟨(q_many n).toNat, by omega⟩
  have hmN : (q_many n).toNat = m := by omega
  rw [hmN]
  have hd : ∀ j : Int, 0 ≤ j → j < m → 0 ≤ q_dig n j ∧ q_dig n j < g 168 18 := fun j a b => hn.2 j a (by omega)
  simp only [J_X10_fillRests, q_g, q_b, q_let, q_ite, q_some, z32, z64, true_or, or_true, true_and, and_true]
  refine q_mono (s_J7_fill (nn := 85) (x0 := 156) (x1 := 1152921504606846976) (by decide)) ?_
  rintro st1 ⟨a1, a2⟩
  have hrd1 : q_rd 160 n st1 := q_rd_of hrd (a1 160 (by decide)) (a1 161 (by decide))
  rw [hrd1.1, q_up_row (show (160 : Int) ≠ 156 by decide), hrd1.1, hm]
  refine ⟨by omega, ?_⟩
  have hR0 : ∀ t, q_Rr g (q_dig n) m 0 t = if (t : Int) = g 168 2 then some 0 else none := fun t => rfl
  have hRh : ∀ r, q_Rr g (q_dig n) m (r + 1) (g 168 2).toNat = none := fun r => by
    show e_mins _ ((g 168 2).toNat - (g 168 2).toNat) = none
    rw [Nat.sub_self]; rfl
  refine q_ford (fun r st => (∀ x, x ≠ 156 → st x = st0 x) ∧ (∀ k t : Nat, m ≤ k + r → k ≤ m → t ≤ g 168 2 → st 156 ((k : Int) * 17 + t) = e_I 1152921504606846976 (q_Rr g (q_dig n) m (m - k) t)) ∧ ∀ k t : Nat, k + r < m → t ≤ g 168 2 → st 156 ((k : Int) * 17 + t) = 1152921504606846976) ((m : Int) - 1) m (by omega) ⟨fun x hx => by rw [q_up_row hx]; exact a1 x hx, fun k t b c d => ?_, fun k t b c => ?_⟩ ?_ ?_
  · have e : k = m := by omega
    subst e
    rw [Nat.sub_self, hR0, q_up_at, a2]
    by_cases ht : (t : Int) = g 168 2
    · rw [if_pos (by omega), if_pos ht]; rfl
    · rw [if_neg (by omega), if_neg ht, if_pos (by omega)]; rfl
  · rw [q_up_at, if_neg (by omega), a2, if_pos (by omega)]
  · rintro r st hr ⟨i1, i2, i3⟩
    simp only [J_X10_fillRests_b33, q_g, q_b, q_let, q_ite, q_some, z32, z64, true_or, or_true, true_and, and_true]
    refine ⟨by omega, fun h9 => by omega, fun _ => ?_⟩
    have hk : ((m : Int) - 1 - r) = ((m - 1 - r : Nat) : Int) := by omega
    rw [hk]
    refine q_mono (P := fun st => (∀ x, x ≠ 156 → st x = st0 x) ∧ (∀ k t : Nat, m ≤ k + (r + 1) → k ≤ m → t ≤ g 168 2 → st 156 ((k : Int) * 17 + t) = e_I 1152921504606846976 (q_Rr g (q_dig n) m (m - k) t)) ∧ ∀ k t : Nat, k + (r + 1) < m → t ≤ g 168 2 → st 156 ((k : Int) * 17 + t) = 1152921504606846976) ?_ (fun st1 h1 => ⟨_, rfl, h1⟩)
    refine q_for0 (fun f st => (∀ x, x ≠ 156 → st x = st0 x) ∧ (∀ k t : Nat, (m ≤ k + r ∨ (k = m - 1 - r ∧ t < f)) → k ≤ m → t ≤ g 168 2 → st 156 ((k : Int) * 17 + t) = e_I 1152921504606846976 (q_Rr g (q_dig n) m (m - k) t)) ∧ ∀ k t : Nat, (k + (r + 1) < m ∨ (k = m - 1 - r ∧ f ≤ t)) → t ≤ g 168 2 → st 156 ((k : Int) * 17 + t) = 1152921504606846976) (g 168 2).toNat (by omega) ⟨i1, fun k t b c d => i2 k t (by omega) c d, fun k t b c => i3 k t (by omega) c⟩ ?_ ?_
    · rintro f st hf ⟨k1, k2, k3⟩
      have hT1 : q_TC g st := q_TC_of hT hB (fun x a b => by unfold q_isT at a; exact k1 x (by omega))
      have hrd2 : q_rd 160 n st := q_rd_of hrd (k1 160 (by decide)) (k1 161 (by decide))
      have hdk := hd ((m - 1 - r : Nat) : Int) (by omega) (by omega)
      have hmr : (m : Int) - (((r : Nat) : Int) + 1) = ((m - 1 - r : Nat) : Int) := by omega
      have hRs : q_Rr g (q_dig n) m (r + 1) f = e_mins (fun i => e_add (q_Rr g (q_dig n) m r (f + 1 + i)) (q_tab g (q_dig n ((m - 1 - r : Nat) : Int)) f ((f + 1 + i : Nat) : Int))) ((g 168 2).toNat - f) := by
        rw [← hmr]; rfl
      simp only [J_X10_fillRests_b41, q_g, q_b, q_let, q_ite, q_some, z32, z64, true_or, or_true, true_and, and_true]
      refine ⟨by omega, fun _ => ?_, fun h9 => by omega⟩
      refine q_eq (q_mins none (fun i => e_add (q_Rr g (q_dig n) m r (f + 1 + i)) (q_tab g (q_dig n ((m - 1 - r : Nat) : Int)) f ((f + 1 + i : Nat) : Int))) ((f : Int) + 1) ((g 168 2).toNat - f) (by omega) (fun i hi => ?_) (fun x => ?_)) ?_
      · refine q_of ?_
        simp only [J_X10_fillRests_b58, q_g, q_b, q_let, q_ite, q_some, z32, z64, true_or, or_true, true_and, and_true]
        refine ⟨by omega, fun h9 => by omega, fun _ => ?_⟩
        refine q_eq (s_X6_wordAt hrd2 (by omega)) ?_
        rw [if_pos (by omega)]
        refine q_eq (s_X0_span (by omega)) ?_
        have e1 := k2 (m - 1 - r + 1) (f + 1 + i) (by omega) (by omega) (by omega)
        rw [show m - (m - 1 - r + 1) = r by omega] at e1
        have e2 := hT1.2.2.1 (q_dig n ((m - 1 - r : Nat) : Int)) f ((f + 1 + i : Nat) : Int) (by omega) (by omega) (by omega) (by omega) (by omega)
        have b1 := q_Rr_bd2 hB (by omega) hd (r := r) (t := f + 1 + i) (by omega) (by omega)
        have b2 : e_bd 600000010000 (q_tab g (q_dig n ((m - 1 - r : Nat) : Int)) f ((f + 1 + i : Nat) : Int)) := q_tab_bd hB (by omega)
        have b3 : e_bd 10000000000000 (e_min none (e_mins (fun i => e_add (q_Rr g (q_dig n) m r (f + 1 + i)) (q_tab g (q_dig n ((m - 1 - r : Nat) : Int)) f ((f + 1 + i : Nat) : Int))) i)) := e_bd_mins fun j hj => e_bd_le (by decide) (e_bd_add (q_Rr_bd2 hB (by omega) hd (r := r) (t := f + 1 + j) (by omega) (by omega)) (q_tab_bd hB (t := ((f + 1 + j : Nat) : Int)) (by omega)))
        have c1 := e_I_le (K := 1152921504606846976) b1 (by decide) (by decide)
        have c2 := e_I_le (K := 1152921504606846976) b2 (by decide) (by decide)
        have c3 := e_I_le (K := 1152921504606846976) b3 (by decide) (by decide)
        have hacc := e_acc b3 b1 b2 (K := 1152921504606846976) (by decide) (by decide) (by decide) (by decide) (by decide)
        rw [show (((m - 1 - r : Nat) : Int) + 1) * 17 + ((f : Int) + 1 + i) = ((m - 1 - r + 1 : Nat) : Int) * 17 + ((f + 1 + i : Nat) : Int) by omega, e1, show 289 * q_dig n ((m - 1 - r : Nat) : Int) + 17 * (f : Int) + ((f : Int) + 1 + i) = 289 * q_dig n ((m - 1 - r : Nat) : Int) + 17 * (f : Int) + ((f + 1 + i : Nat) : Int) by omega, e2]
        refine ⟨by omega, by omega, ?_⟩
        rw [← hacc]
        congr 3; omega
      · refine q_of ?_
        simp only [J_X10_fillRests_b58, q_g, q_b, q_let, q_ite, q_some, z32, z64, true_or, or_true, true_and, and_true]
        exact ⟨by omega, fun _ => trivial, fun h9 => by omega⟩
      · have hv : e_min none (e_mins (fun i => e_add (q_Rr g (q_dig n) m r (f + 1 + i)) (q_tab g (q_dig n ((m - 1 - r : Nat) : Int)) f ((f + 1 + i : Nat) : Int))) ((g 168 2).toNat - f)) = q_Rr g (q_dig n) m (r + 1) f := hRs.symm
        rw [hv]
        refine ⟨by omega, _, rfl, fun x hx => (q_up_row hx).trans (k1 x hx), fun k t b c d => ?_, fun k t b c => ?_⟩
        · rw [q_up_at]
          by_cases e : k = m - 1 - r ∧ t = f
          · obtain ⟨rfl, rfl⟩ := e
            rw [if_pos rfl, show m - (m - 1 - r) = r + 1 by omega]
          · rw [if_neg (by omega)]; exact k2 k t (by omega) c d
        · rw [q_up_at, if_neg (by omega)]; exact k3 k t (by omega) c
    · rintro st ⟨k1, k2, k3⟩
      simp only [J_X10_fillRests_b41, q_g, q_b, q_let, q_ite, q_some, z32, z64, true_or, or_true, true_and, and_true]
      refine ⟨by omega, fun h9 => by omega, fun _ => ⟨_, rfl, k1, fun k t b c d => ?_, fun k t b c => k3 k t (by omega) c⟩⟩
      by_cases e : m ≤ k + r ∨ (k = m - 1 - r ∧ t < (g 168 2).toNat)
      · exact k2 k t e c d
      · have ek : k = m - 1 - r := by omega
        have et : t = (g 168 2).toNat := by omega
        rw [k3 k t (by omega) d, ek, et, show m - (m - 1 - r) = r + 1 by omega, hRh]; rfl
  · rintro st ⟨i1, i2, i3⟩
    simp only [J_X10_fillRests_b33, q_g, q_b, q_let, q_ite, q_some, z32, z64, true_or, or_true, true_and, and_true]
    exact ⟨by omega, fun _ => ⟨_, rfl, i1, fun k t b c => i2 k t (by omega) b c⟩, fun h9 => by omega⟩
theorem s_X10_firstCut {g st : z_St} (hB : q_RB g) (hT : q_TC g st) {n : Nat} (hn : q_isRow g n) (hrd : q_rd 160 n st) {m k f : Nat} (hm : q_many n = (m : Int)) (hk : k < m)
    (hR : ∀ k t : Nat, k ≤ m → t ≤ g 168 2 → st 156 ((k : Int) * 17 + t) = e_I 1152921504606846976 (q_Rr g (q_dig n) m (m - k) t)) {v : Int} (hf : f ≤ g 168 2) (hv : q_Rr g (q_dig n) m (m - (k + 1) + 1) f = some v) :
    J_X10_firstCut 160 k f (g 168 2) st = some ((q_cut g (q_dig n) m (m - (k + 1)) f : Nat) : Int) := by
  have hf1 := hB.1.1
  have hw1 := hB.2.2.2.2.1.1
  have hmb := q_many_bd n
  have hd : ∀ j : Int, 0 ≤ j → j < m → 0 ≤ q_dig n j ∧ q_dig n j < g 168 18 := fun j a b => hn.2 j a (by omega)
  obtain ⟨s1, s2, s3, s4⟩ := q_cut_spec hv
  have hvb := q_Rr_bd2 hB (by omega) hd (r := m - (k + 1) + 1) (t := f) (by omega) hf v hv
  rw [show (m : Int) - (((m - (k + 1) : Nat) : Int) + 1) = k by omega] at s3 s4
  have hdk := hd k (by omega) (by omega)
  refine q_of ?_
  simp only [J_X10_firstCut, q_g, q_b, q_let, q_ite, q_some, z32, z64, true_or, or_true, true_and, and_true]
  refine q_mono (P := fun r => match r with | .inl _ => q_cut g (q_dig n) m (m - (k + 1)) f = (g 168 2).toNat | .inr y => y = (q_cut g (q_dig n) m (m - (k + 1)) f : Nat)) ?_ ?_
  · refine q_loop (fun q => ∃ t : Nat, q = (t : Int) ∧ f < t ∧ t ≤ q_cut g (q_dig n) m (m - (k + 1)) f) (fun q => (17 - q).toNat) ⟨f + 1, by omega, by omega, by omega⟩ (by show (17 - ((f : Int) + 1)).toNat < _; omega) ?_
    rintro v5 ⟨t, rfl, t1, t2⟩
    have e1 := hR (k + 1) t (by omega) (by omega)
    have e0 := hR k f (by omega) hf
    rw [show m - k = m - (k + 1) + 1 by omega, hv, e_I_some] at e0
    have b1 := q_Rr_bd2 hB (by omega) hd (r := m - (k + 1)) (t := t) (by omega) (by omega)
    have c1 := e_I_le (K := 1152921504606846976) b1 (by decide) (by decide)
    have b2 : e_bd 600000010000 (q_tab g (q_dig n k) f t) := q_tab_bd hB (by omega)
    have c2 := e_I_le (K := 1152921504606846976) b2 (by decide) (by decide)
    have e3 := hT.2.2.1 (q_dig n k) f t (by omega) (by omega) (by omega) (by omega) (by omega)
    simp only [J_X10_firstCut_b6, q_g, q_b, q_let, q_ite, q_some, z32, z64, true_or, or_true, true_and, and_true]
    refine ⟨by omega, fun hlt => ?_, fun hge => by omega⟩
    refine q_eq (s_X6_wordAt hrd (by omega)) ?_
    rw [if_pos (by omega)]
    refine q_eq (s_X0_span (by omega)) ?_
    rw [e3, show ((k : Int) + 1) * 17 + t = ((k + 1 : Nat) : Int) * 17 + t by omega, e1, e0]
    have key : e_I 1152921504606846976 (q_tab g (q_dig n k) f t) + e_I 1152921504606846976 (q_Rr g (q_dig n) m (m - (k + 1)) t) = v ↔ e_add (q_Rr g (q_dig n) m (m - (k + 1)) t) (q_tab g (q_dig n k) f t) = some v := by
      rcases e_I_cases (K := 1152921504606846976) (q_Rr g (q_dig n) m (m - (k + 1)) t) with ⟨n1, n2⟩ | ⟨a, n1, n2⟩
      · rw [n2, n1]
        exact ⟨fun h9 => by omega, fun h9 => by cases h9⟩
      · rcases e_I_cases (K := 1152921504606846976) (q_tab g (q_dig n k) f t) with ⟨p1, p2⟩ | ⟨y, p1, p2⟩
        · have ha := b1 a n1
          rw [p2, p1, n2, n1]
          exact ⟨fun h9 => by omega, fun h9 => by cases h9⟩
        · rw [p2, p1, n2, n1]
          show y + a = v ↔ some (a + y) = some v
          exact ⟨fun h9 => by congr 1; omega, fun h9 => by have := Option.some.inj h9; omega⟩
    refine ⟨by omega, by omega, by omega, fun h9 => ?_, fun h9 => ?_⟩
    · have : ¬ t < q_cut g (q_dig n) m (m - (k + 1)) f := fun h => s4 t t1 h (key.mp h9)
      omega
    · have : t ≠ q_cut g (q_dig n) m (m - (k + 1)) f := fun h => by
        apply h9
        rw [key]
        rw [h]; exact s3
      exact ⟨⟨t + 1, by omega, by omega, by omega⟩, by omega⟩
  · intro r hr
    cases r with
    | inl u =>
      have hr2 : q_cut g (q_dig n) m (m - (k + 1)) f = (g 168 2).toNat := hr
      exact ⟨g 168 2, rfl, by omega⟩
    | inr y => exact ⟨y, rfl, hr⟩
