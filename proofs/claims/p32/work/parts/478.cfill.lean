-- THE CLASS'S TRACK: fill
def q_pC (g : z_St) (n K : Nat) (st : z_St) : Prop := ∀ k i : Nat, k < K → q_Tk g (q_dig n) (q_many n).toNat k + i < q_Tk g (q_dig n) (q_many n).toNat (k + 1) → ∀ c : Int, 0 ≤ c → c < 6 → st (150 + c) ((q_Tk g (q_dig n) (q_many n).toNat k + i : Nat) : Int) = q_tv g (q_dig n) (q_many n).toNat k i c
theorem q_Tk_mono {g : z_St} {d : Int → Int} {m : Nat} {v : Int} (hv : q_Rr g d m m 0 = some v) : ∀ a b : Nat, a ≤ b → b ≤ m → q_Tk g d m a ≤ q_Tk g d m b := by
  intro a b
  induction b with
  | zero => intro h _; rw [show a = 0 by omega]; exact Nat.le_refl _
  | succ b ih =>
    intro h hb
    by_cases e9 : a = b + 1
    · rw [e9]; exact Nat.le_refl _
    · exact Nat.le_trans (ih (by omega) (by omega)) (Nat.le_of_lt (q_Tk_lt hv (by omega)).1)
theorem s_X10_fill {g st0 : z_St} (hC : q_C g st0) (hB : q_RB g) (hT : q_TC g st0) {b n : Nat} (hb : q_bestRow g b n) (hrd : q_rd 160 n st0) :
    q_ok (J_X10_fill 160 (g 168 2) st0) (fun st => (∀ x, (x < 148 ∨ 157 < x) → st x = st0 x) ∧ q_pC g n (q_many n).toNat st ∧ st 148 3 = 1) := by
  have hf1 := hB.1.1
  have hw1 := hB.2.2.2.2.1.1
  obtain ⟨hrow, hf0, v, hv⟩ := q_bestRow_R hB hb
  have hmb := q_many_bd n
  have hrow1 := hrow.1
  obtain ⟨m, hm⟩ : ∃ m : Nat, q_many n = (m : Int) := ⟨(q_many n).toNat, by omega⟩
  have hmN : (q_many n).toNat = m := by omega
  simp only [J_X10_fill, q_g, q_b, q_let, q_ite, q_some, z32, z64, true_or, or_true, true_and, and_true]
  refine q_mono (s_X10_fillRests hB hT hrow hrd hf0) ?_
  rintro st1 ⟨a1, a2⟩
  rw [hmN] at hv a2
  refine q_mono (P := fun st => (∀ x, (x < 148 ∨ 157 < x) → st x = st0 x) ∧ q_pC g n m st) ?_ ?_
  · refine q_loop (fun q => ∃ k : Nat, q.2.1 = (k : Int) ∧ k ≤ m ∧ q.1 = (q_Tk g (q_dig n) m k : Nat) ∧ (∀ x, (x < 148 ∨ 157 < x) → q.2.2 x = st0 x) ∧ q.2.2 156 = st1 156 ∧ q_pC g n k q.2.2) (fun q => (5 - q.2.1).toNat) ⟨0, rfl, by omega, rfl, fun x hx => a1 x (by omega), rfl, fun k i h => by omega⟩ (by show (5 - (0 : Int)).toNat < _; decide) ?_
    rintro ⟨fr, kk, st⟩ ⟨k, i1, i2, i3, i4, i7, i5⟩
    dsimp only at i1 i3 i4 i5 i7
    subst i1 i3
    have hC4 : q_C g st := q_C_D hC (fun x p q r => i4 x (by omega))
    have hT4 : q_TC g st := q_TC_of hT hB (fun x p q => by unfold q_isT at p; exact i4 x (by omega))
    have hrd4 : q_rd 160 n st := q_rd_of hrd (i4 160 (by decide)) (i4 161 (by decide))
    simp only [J_X10_fill_b14, q_g, q_b, q_let, q_ite, q_some, z32, z64, true_or, or_true, true_and, and_true]
    rw [hrd4.1, hm]
    refine ⟨by omega, fun hlt => ?_, fun hge => ?_⟩
    · have hkm : k < m := by omega
      obtain ⟨⟨u, hu⟩, hTk⟩ := q_Tk_spec hv k (by omega)
      obtain ⟨hlt1, y, hy⟩ := q_Tk_lt hv hkm
      have hTk1 := (q_Tk_spec hv (k + 1) (by omega)).2
      rw [show m - k = m - (k + 1) + 1 by omega] at hu
      have hTs : q_Tk g (q_dig n) m (k + 1) = q_cut g (q_dig n) m (m - (k + 1)) (q_Tk g (q_dig n) m k) := rfl
      have hcut := s_X10_firstCut hB hT4 hrow hrd4 (m := m) (k := k) (f := q_Tk g (q_dig n) m k) hm hkm (fun k t p q => by rw [i7]; exact a2 k t p q) (by omega) hu
      rw [← hTs] at hcut
      refine q_eq hcut ?_
      refine q_eq (s_X6_wordAt hrd4 (by omega)) ?_
      rw [if_pos (by omega)]
      have hdk := hrow.2 k (by omega) (by omega)
      refine q_mono (s_X10_sayWord hC4 hB hT4 (place := (k : Int)) (w := q_dig n k) (f := q_Tk g (q_dig n) m k) (t := q_Tk g (q_dig n) m (k + 1)) hdk (by omega) hy) ?_
      rintro st5 ⟨e1, e2, e3⟩
      refine ⟨⟨k + 1, by omega, by omega, rfl, fun x hx => (e1 x (by omega) (by omega)).trans (i4 x hx), (e1 156 (by decide) (by decide)).trans i7, fun k' i hk' hi c c0 c6 => ?_⟩, by omega⟩
      rw [hmN] at hi ⊢
      by_cases e : k' = k
      · subst e
        rw [q_tv_tw]
        exact e3 i hi c c0 c6
      · have hmono := q_Tk_mono hv (k' + 1) k (by omega) (by omega)
        rw [e2 _ _ (by omega) (by omega)]
        have := i5 k' i (by omega) (by rw [hmN]; exact hi) c c0 c6
        rw [hmN] at this
        exact this
    · have e : k = m := by omega
      rw [e] at i5
      exact ⟨i4, i5⟩
  · rintro st2 ⟨b1, b2⟩
    refine ⟨fun x hx => by rw [q_up_row (by omega)]; exact b1 x hx, fun k i hk hi c c0 c6 => ?_, by rw [z_up_at]⟩
    rw [q_up_row (by omega)]
    exact b2 k i (by omega) hi c c0 c6
/-- one FRAME's words on both sides -/
theorem q_path_at {g : z_St} (hB : q_RB g) {b n : Nat} (hb : q_bestRow g b n) {x : Int} (hx : 0 ≤ x ∧ x < g 168 2) : ∃ k i : Nat, k < (q_many n).toNat ∧ x = ((q_Tk g (q_dig n) (q_many n).toNat k + i : Nat) : Int) ∧ q_Tk g (q_dig n) (q_many n).toNat k + i < q_Tk g (q_dig n) (q_many n).toNat (k + 1) := by
  have hf1 := hB.1.1
  obtain ⟨hrow, hf0, v, hv⟩ := q_bestRow_R hB hb
  obtain ⟨k, h1, h2, h3⟩ := q_Tk_in hf1.1 hv (x := x.toNat) (by omega)
  exact ⟨k, x.toNat - q_Tk g (q_dig n) (q_many n).toNat k, h1, by omega, by omega⟩
