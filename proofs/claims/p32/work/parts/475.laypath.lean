-- THE REFERENCE'S laysPath, path
def q_bestRow (g : z_St) (k n : Nat) : Prop := (q_rows g)[k]? = some n ∧ ∃ x, q_wl g k = some x ∧ ∀ (i : Nat) (y : Int), i < q_len g → q_wl g i = some y → x ≤ y ∧ (i < k → x < y)
theorem q_bestRow_uniq {g : z_St} {k n k' n' : Nat} (h : q_bestRow g k n) (h' : q_bestRow g k' n') : k = k' ∧ n = n' := by
  obtain ⟨h1, x, h2, h3⟩ := h
  obtain ⟨k1, y, k2, k3⟩ := h'
  have l1 : k < q_len g := (List.getElem?_eq_some_iff.mp h1).1
  have l2 : k' < q_len g := (List.getElem?_eq_some_iff.mp k1).1
  have a := h3 k' y l2 k2
  have b := k3 k x l1 h2
  have e : k = k' := by
    rcases Nat.lt_trichotomy k k' with c | c | c
    · have := b.2 c; omega
    · exact c
    · have := a.2 c; omega
  subst e
  rw [h1] at k1
  exact ⟨rfl, Option.some.inj k1⟩
/-- the best row's path begins -/
theorem q_bestRow_R {g : z_St} (hB : q_RB g) {k n : Nat} (h : q_bestRow g k n) : q_isRow g n ∧ 0 < g 168 2 ∧ ∃ v, q_Rr g (q_dig n) (q_many n).toNat (q_many n).toNat 0 = some v := by
  have hf1 := hB.1.1
  obtain ⟨h1, x, h2, h3⟩ := h
  rw [q_wl_at h1] at h2
  unfold q_wt q_W at h2
  by_cases h0 : 0 < g 168 2
  · rw [if_pos h0] at h2
    obtain ⟨y, z, hy, _, _⟩ := e_add_some h2
    rw [q_F_R hf1.1] at hy
    exact ⟨q_rows_isRow hB h1, h0, y, hy⟩
  · rw [if_neg h0] at h2; cases h2
def q_pOK (g : z_St) (n : Nat) (K : Nat) (st : z_St) : Prop := ∀ k i : Nat, k < K → q_Tk g (q_dig n) (q_many n).toNat k + i < q_Tk g (q_dig n) (q_many n).toNat (k + 1) → ∀ c : Int, 0 ≤ c → c < 6 → st 191 (6 * ((q_Tk g (q_dig n) (q_many n).toNat k + i : Nat) : Int) + c) = q_tv g (q_dig n) (q_many n).toNat k i c
theorem s_path_47 {g st : z_St} (hS : q_same g st) (hB : q_RB g) (hT : q_tabOK g (fun _ _ => True) st) {d : Int → Int} {m k f : Nat} (hm : m ≤ 4) (hk : k < m) (hd : ∀ j : Int, 0 ≤ j → j < m → (0 ≤ d j ∧ d j < g 168 18) ∧ st 186 j = d j) (hR : ∀ k t : Nat, k ≤ m → t ≤ g 168 2 → st 188 (17 * (k : Int) + t) = e_I 1000000000000000000 (q_Rr g d m (m - k) t)) {v v1 v2 : Int} (hf : f ≤ g 168 2) (hv : q_Rr g d m (m - (k + 1) + 1) f = some v) :
    z_iter z_F (fun q9 : Int => J_X12_laysPath_b47 v1 v2 (f : Int) (k : Int) q9 st) ((f : Int) + 1) = some ((q_cut g d m (m - (k + 1)) f : Nat) : Int) := by
  have hf1 := hB.1.1
  have hw1 := hB.2.2.2.2.1.1
  have hd1 : ∀ j : Int, 0 ≤ j → j < m → 0 ≤ d j ∧ d j < g 168 18 := fun j a b => (hd j a b).1
  obtain ⟨s1, s2, s3, s4⟩ := q_cut_spec hv
  have hvb := q_Rr_bd2 hB hm hd1 (r := m - (k + 1) + 1) (t := f) (by omega) hf v hv
  rw [show (m : Int) - (((m - (k + 1) : Nat) : Int) + 1) = k by omega] at s3 s4
  refine q_of ?_
  refine q_loop (fun q => ∃ t : Nat, q = (t : Int) ∧ f < t ∧ t ≤ q_cut g d m (m - (k + 1)) f) (fun q => (17 - q).toNat) ⟨f + 1, by omega, by omega, by omega⟩ (by show (17 - ((f : Int) + 1)).toNat < _; omega) ?_
  rintro v5 ⟨t, rfl, t1, t2⟩
  have e1 := hR (k + 1) t (by omega) (by omega)
  have e0 := hR k f (by omega) hf
  rw [show m - k = m - (k + 1) + 1 by omega, hv, e_I_some] at e0
  have b1 := q_Rr_bd2 hB hm hd1 (r := m - (k + 1)) (t := t) (by omega) (by omega)
  have c1 := e_I_le (K := 1000000000000000000) b1 (by decide) (by decide)
  have hdk := hd k (by omega) (by omega)
  have b2 : e_bd 600000010000 (q_tab g (d k) f t) := q_tab_bd hB (by omega)
  have c2 := e_I_le (K := 1000000000000000000) b2 (by decide) (by decide)
  have e3 := (hT (d k) f t (by omega) (by omega) (by omega) (by omega) (by omega) trivial).1
  simp only [J_X12_laysPath_b47, J_X12_laysPath_115, q_g, q_b, q_let, q_ite, q_some, z32, z64, true_or, or_true, true_and, and_true]
  rw [show 17 * ((k : Int) + 1) + t = 17 * ((k + 1 : Nat) : Int) + t by omega, e1, hdk.2, e0]
  have next : ¬ e_add (q_Rr g d m (m - (k + 1)) t) (q_tab g (d k) f t) = some v → (∃ t' : Nat, (t : Int) + 1 = t' ∧ f < t' ∧ t' ≤ q_cut g d m (m - (k + 1)) f) ∧ (17 - ((t : Int) + 1)).toNat < (17 - (t : Int)).toNat := fun hn => by
    have : t ≠ q_cut g d m (m - (k + 1)) f := fun h => by rw [h] at hn; exact hn s3
    exact ⟨⟨t + 1, by omega, by omega, by omega⟩, by omega⟩
  have here : e_add (q_Rr g d m (m - (k + 1)) t) (q_tab g (d k) f t) = some v → (t : Int) = (q_cut g d m (m - (k + 1)) f : Nat) := fun hy => by
    have : ¬ t < q_cut g d m (m - (k + 1)) f := fun h => s4 t t1 h hy
    omega
  refine ⟨by omega, by omega, fun hlt => ⟨by omega, by omega, ?_⟩, fun hge => next (fun h9 => ?_)⟩
  · refine q_eq (s_X12_tableOf (by omega)) ?_
    rw [e3]
    rcases e_I_cases (K := 1000000000000000000) (q_Rr g d m (m - (k + 1)) t) with ⟨n1, n2⟩ | ⟨a, n1, n2⟩
    · omega
    · have ha := b1 a n1
      rcases e_I_cases (K := 1000000000000000000) (q_tab g (d k) f t) with ⟨p1, p2⟩ | ⟨y, p1, p2⟩
      · have e9 : e_add (q_Rr g d m (m - (k + 1)) t) (q_tab g (d k) f t) = none := by rw [n1, p1]; rfl
        exact ⟨by omega, by omega, fun h9 => by omega, fun _ => next (fun h9 => by rw [e9] at h9; cases h9)⟩
      · have hy := b2 y p1
        have e9 : e_add (q_Rr g d m (m - (k + 1)) t) (q_tab g (d k) f t) = some (a + y) := by rw [n1, p1]; rfl
        refine ⟨by omega, by omega, fun h9 => here (by rw [e9]; congr 1; omega), fun h9 => next (fun h8 => ?_)⟩
        rw [e9] at h8
        have := Option.some.inj h8
        omega
  · obtain ⟨y, z, hy, _⟩ := e_add_some h9
    have := b1 y hy
    rw [hy, e_I_some] at hge
    omega
theorem s_X12_laysPath {g st0 : z_St} (hS : q_same g st0) (hB : q_RB g) : q_ok (J_X12_laysPath st0) (fun r => (∀ x, (x < 168 ∨ (168 < x ∧ x < 183) ∨ x = 187 ∨ 191 < x) → r.2 x = st0 x) ∧ (∀ j, j ≠ 31 → r.2 168 j = st0 168 j) ∧ q_first g (q_rows g) r.1 ∧ ∀ b n : Nat, q_bestRow g b n → q_pOK g n (q_many n).toNat r.2) := by
  have hf1 := hB.1.1
  have hw1 := hB.2.2.2.2.1.1
  have hlen := q_len_le hB
  simp only [J_X12_laysPath, q_g, q_b, q_let, q_ite, q_some, z32, z64, true_or, or_true, true_and, and_true]
  refine q_mono (s_X12_laysRows hS hB) ?_
  rintro ⟨b, st1⟩ ⟨a1, a2, a3, a4, a5⟩
  dsimp only at a1 a2 a3 a4 a5 ⊢
  have a5' : q_first g (q_rows g) b := a5
  rcases q_bw_first a5' with ⟨rfl, hn, hall⟩ | ⟨bk, n, x, rfl, hk1, hk2, hk3, hk4⟩
  · refine ⟨by decide, fun _ => ⟨fun x hx => a1 x (by omega), a2, a5', fun b n hb => ?_⟩, fun h9 => absurd (by decide) h9⟩
    obtain ⟨h1, y, h2, _⟩ := hb
    rw [hall b (List.getElem?_eq_some_iff.mp h1).1] at h2
    cases h2
  · have hbest : q_bestRow g bk n := ⟨hk1, x, hk2, hk4⟩
    have hbl : bk < q_len g := (List.getElem?_eq_some_iff.mp hk1).1
    obtain ⟨hrow, hf0, v, hv⟩ := q_bestRow_R hB hbest
    have hmb := q_many_bd n
    have hn56 := q_rows_lt hk1
    have hrow1 := hrow.1
    have hS1 : q_same g st1 := ⟨fun x p q => (a1 x (by omega)).trans (hS.1 x p q), fun j p q => (a2 j (by omega)).trans (hS.2 j p q)⟩
    have e190 : st1 190 (bk : Int) = n := (a4.2 bk n hk1).1
    refine ⟨by omega, fun h9 => by omega, fun _ => ⟨by omega, ?_⟩⟩
    rw [e190]
    refine q_mono (s_X12_apart hS1 hB.2.2.2.2.1 (n := (n : Int)) (Or.inl rfl) (by omega)) ?_
    rintro ⟨mm, st2⟩ ⟨b1, hc⟩
    dsimp only at b1 hc ⊢
    rcases hc with ⟨c1, c2, c3⟩ | ⟨c1, c2⟩
    · subst c2
      obtain ⟨m, hm⟩ : ∃ m : Nat, q_many n = (m : Int) := ⟨(q_many n).toNat, by omega⟩
      have hmN : (q_many n).toNat = m := by omega
      rw [hmN] at hv
      have hS2 : q_same g st2 := q_same_of hS1 (fun x a b => b1 x (by omega))
      have hT2 : q_tabOK g (fun _ _ => True) st2 := q_tabOK_of a3 (b1 183 (by decide)) (b1 184 (by decide))
      have hd : ∀ j : Int, 0 ≤ j → j < m → (0 ≤ q_dig n j ∧ q_dig n j < g 168 18) ∧ st2 186 j = q_dig n j := fun j p q => ⟨hrow.2 j p (by omega), c3 j p (by omega)⟩
      rw [hm]
      refine q_mono (s_X12_laysRest hS2 hB hT2 (d := q_dig n) (m := m) (by omega) hd) ?_
      rintro st3 ⟨d1, d2⟩
      have hS3 : q_same g st3 := q_same_of hS2 (fun x a b => d1 x (by omega))
      have hT3 : q_tabOK g (fun _ _ => True) st3 := q_tabOK_of hT2 (d1 183 (by decide)) (d1 184 (by decide))
      have hd3 : ∀ j : Int, 0 ≤ j → j < m → (0 ≤ q_dig n j ∧ q_dig n j < g 168 18) ∧ st3 186 j = q_dig n j := fun j p q => by rw [d1 186 (by decide)]; exact hd j p q
      refine q_mono (P := fun st => (∀ x, x ≠ 185 → x ≠ 191 → st x = st3 x) ∧ q_pOK g n m st) ?_ ?_
      · refine q_loop (fun q => ∃ k : Nat, q.2.1 = (k : Int) ∧ k ≤ m ∧ q.1 = (q_Tk g (q_dig n) m k : Nat) ∧ (∀ x, x ≠ 185 → x ≠ 191 → q.2.2 x = st3 x) ∧ q_pOK g n k q.2.2) (fun q => (5 - q.2.1).toNat) ⟨0, rfl, by omega, rfl, fun _ _ _ => rfl, fun k i h => by omega⟩ (by show (5 - (0 : Int)).toNat < _; decide) ?_
        rintro ⟨fr, kk, st⟩ ⟨k, i1, i2, i3, i4, i5⟩
        dsimp only at i1 i3 i4 i5
        subst i1 i3
        have hS4 : q_same g st := q_same_of hS3 (fun x a b => i4 x (by omega) (by omega))
        have hT4 : q_tabOK g (fun _ _ => True) st := q_tabOK_of hT3 (i4 183 (by decide) (by decide)) (i4 184 (by decide) (by decide))
        have hd4 : ∀ j : Int, 0 ≤ j → j < m → (0 ≤ q_dig n j ∧ q_dig n j < g 168 18) ∧ st 186 j = q_dig n j := fun j p q => by rw [i4 186 (by decide) (by decide)]; exact hd3 j p q
        simp only [J_X12_laysPath_b36, q_g, q_b, q_let, q_ite, q_some, z32, z64, true_or, or_true, true_and, and_true]
        refine ⟨by omega, fun hlt => ?_, fun hge => ?_⟩
        · have hkm : k < m := by omega
          obtain ⟨⟨u, hu⟩, hTk⟩ := q_Tk_spec hv k (by omega)
          obtain ⟨hlt1, y, hy⟩ := q_Tk_lt hv hkm
          have hTk1 := (q_Tk_spec hv (k + 1) (by omega)).2
          rw [show m - k = m - (k + 1) + 1 by omega] at hu
          have hTs : q_Tk g (q_dig n) m (k + 1) = q_cut g (q_dig n) m (m - (k + 1)) (q_Tk g (q_dig n) m k) := rfl
          have h47 := s_path_47 hS4 hB hT4 (d := q_dig n) (m := m) (k := k) (f := q_Tk g (q_dig n) m k) (by omega) hkm hd4 (fun k t a b => by rw [i4 188 (by decide) (by decide)]; exact d2 k t a b) (v1 := (bk : Int)) (v2 := (m : Int)) (by omega) hu
          rw [← hTs] at h47
          refine q_eq h47 ?_
          have hdk := hd4 k (by omega) (by omega)
          refine ⟨by omega, by omega, ?_⟩
          rw [hdk.2]
          refine q_eq (s_X12_sayingOf hS4 hB hT4 (w := q_dig n k) (f := (q_Tk g (q_dig n) m k : Nat)) (t := (q_Tk g (q_dig n) m (k + 1) : Nat)) (by omega)) ?_
          obtain ⟨hc1, u2, hu2, _⟩ := q_chs_some hB (w := q_dig n k) (f := (q_Tk g (q_dig n) m k : Nat)) (t := (q_Tk g (q_dig n) m (k + 1) : Nat)) (by omega) hy
          have hcb := q_chs_bd (g := g) (w := q_dig n k) (f := (q_Tk g (q_dig n) m k : Nat)) (t := (q_Tk g (q_dig n) m (k + 1) : Nat))
          have hsa := q_said_of hB.2.2.2.2.1 (w := q_dig n k) (k := q_chs g (q_dig n k) (q_Tk g (q_dig n) m k : Nat) (q_Tk g (q_dig n) m (k + 1) : Nat)) (by omega)
          have hs2 := hsa.2.1
          rw [q_take_Tl (by omega), show (((q_Tk g (q_dig n) m (k + 1) : Nat) : Int) - (q_Tk g (q_dig n) m k : Nat)).toNat = q_Tk g (q_dig n) m (k + 1) - q_Tk g (q_dig n) m k by omega] at hu2
          refine q_mono (s_X12_laysSounds hS4 hB (place := (k : Int)) (w := q_dig n k) (f := q_Tk g (q_dig n) m k) (t := q_Tk g (q_dig n) m (k + 1)) (by omega) hsa (by omega) hu2) ?_
          rintro st5 ⟨e1, e2, e3⟩
          refine ⟨⟨k + 1, by omega, by omega, rfl, fun x x1 x2 => (e1 x x1 x2).trans (i4 x x1 x2), fun k' i hk' hi c c0 c6 => ?_⟩, by omega⟩
          rw [hmN] at hi ⊢
          by_cases e : k' = k
          · subst e
            rw [q_tv_tw]
            exact e3 i hi c c0 c6
          · have hmono : q_Tk g (q_dig n) m (k' + 1) ≤ q_Tk g (q_dig n) m k := by
              have : ∀ a b : Nat, a ≤ b → b ≤ m → q_Tk g (q_dig n) m a ≤ q_Tk g (q_dig n) m b := by
                intro a b
                induction b with
                | zero => intro h _; rw [show a = 0 by omega]; exact Nat.le_refl _
                | succ b ih =>
                  intro h hb
                  by_cases e9 : a = b + 1
                  · rw [e9]; exact Nat.le_refl _
                  · exact Nat.le_trans (ih (by omega) (by omega)) (Nat.le_of_lt (q_Tk_lt hv (by omega)).1)
              exact this (k' + 1) k (by omega) (by omega)
            rw [e2 _ (by omega)]
            have := i5 k' i (by omega) (by rw [hmN]; exact hi) c c0 c6
            rw [hmN] at this
            exact this
        · have e : k = m := by omega
          rw [e] at i5
          exact ⟨i4, i5⟩
      · rintro st4 ⟨e1, e2⟩
        refine ⟨fun x hx => by rw [e1 x (by omega) (by omega), d1 x (by omega), b1 x (by omega)]; exact a1 x (by omega), fun j hj => by rw [e1 168 (by decide) (by decide), d1 168 (by decide), b1 168 (by decide)]; exact a2 j hj, a5', fun b' n' hb' => ?_⟩
        obtain ⟨_, rfl⟩ := q_bestRow_uniq hbest hb'
        rw [hmN]; exact e2
    · exact absurd hrow c1
