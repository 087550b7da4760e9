-- THE BEST PATH: what it is
/-- what the last r WORDS of the row d (m WORDS) take from t on -/
def q_Rr (g : z_St) (d : Int → Int) (m : Nat) : Nat → Nat → Option Int
  | 0, t => if (t : Int) = g 168 2 then some 0 else none
  | r + 1, t => e_mins (fun i => e_add (q_Rr g d m r (t + 1 + i)) (q_tab g (d ((m : Int) - (r + 1))) t ((t + 1 + i : Nat) : Int))) ((g 168 2).toNat - t)
theorem q_Rr_bd {g : z_St} (hB : q_RB g) {d : Int → Int} {m : Nat} (hd : ∀ j : Int, 0 ≤ j → j < m → 0 ≤ d j ∧ d j < g 168 18) : ∀ {r t : Nat}, r ≤ m → t ≤ g 168 2 → e_bd (r * 700000000000) (q_Rr g d m r t) := by
  have hw1 := hB.2.2.2.2.1.1
  intro r
  induction r with
  | zero =>
    intro t _ _
    unfold q_Rr
    split
    · exact e_bd_some (by omega)
    · exact e_bd_none
  | succ r ih =>
    intro t hr ht
    unfold q_Rr
    have hd1 := hd ((m : Int) - (r + 1)) (by omega) (by omega)
    refine e_bd_mins fun i hi => e_bd_le ?_ (e_bd_add (ih (by omega) (by omega)) (q_tab_bd hB (by omega)))
    rw [Int.natCast_add]; omega
/-- forward and backward are one -/
theorem q_F_R {g : z_St} (hf : 0 ≤ g 168 2) {d : Int → Int} {m : Nat} : q_F g d m (g 168 2).toNat = q_Rr g d m m 0 := by
  have hS : ∀ k, k ≤ m → e_mins (fun t => e_add (q_F g d k t) (q_Rr g d m (m - k) t)) ((g 168 2).toNat + 1) = e_mins (fun t => e_add (q_F g d 0 t) (q_Rr g d m m t)) ((g 168 2).toNat + 1) := by
    intro k
    induction k with
    | zero => intro _; rfl
    | succ k ih =>
      intro hk
      rw [← ih (by omega)]
      obtain ⟨r, hr⟩ : ∃ r, m - k = r + 1 := ⟨m - k - 1, by omega⟩
      have hr1 : m - (k + 1) = r := by omega
      rw [hr, hr1]
      have hdk : ((m : Int) - (r + 1)) = k := by omega
      have hF : ∀ to, q_F g d (k + 1) to = e_mins (fun f => e_add (q_F g d k f) (q_tab g (d k) f to)) to := fun to => rfl
      have hR : ∀ t, q_Rr g d m (r + 1) t = e_mins (fun i => e_add (q_Rr g d m r (t + 1 + i)) (q_tab g (d k) t ((t + 1 + i : Nat) : Int))) ((g 168 2).toNat - t) := fun t => by
        show e_mins (fun i => e_add (q_Rr g d m r (t + 1 + i)) (q_tab g (d ((m : Int) - (r + 1))) t ((t + 1 + i : Nat) : Int))) _ = _
        rw [hdk]
      refine e_le_antisymm ?_ ?_
      · refine e_le_mins fun t ht => ?_
        rw [hR, e_add_mins]
        refine e_le_mins fun i hi => ?_
        refine e_le_trans (e_mins_le (f := fun t => e_add (q_F g d (k + 1) t) (q_Rr g d m r t)) (i := t + 1 + i) (by omega)) ?_
        rw [e_add_comm (a := q_Rr g d m r (t + 1 + i)), ← e_add_assoc]
        refine e_add_le ?_ (e_le_refl _)
        rw [hF]
        exact e_mins_le (f := fun f => e_add (q_F g d k f) (q_tab g (d k) f ((t + 1 + i : Nat) : Int))) (i := t) (by omega)
      · refine e_le_mins fun to hto => ?_
        rw [hF, e_mins_add]
        refine e_le_mins fun t ht => ?_
        refine e_le_trans (e_mins_le (f := fun t => e_add (q_F g d k t) (q_Rr g d m (r + 1) t)) (i := t) (by omega)) ?_
        rw [e_add_assoc]
        refine e_add_le (e_le_refl _) ?_
        rw [hR, e_add_comm]
        have := e_mins_le (f := fun i => e_add (q_Rr g d m r (t + 1 + i)) (q_tab g (d k) t ((t + 1 + i : Nat) : Int))) (i := to - t - 1) (n := (g 168 2).toNat - t) (by omega)
        rw [show t + 1 + (to - t - 1) = to by omega] at this
        exact this
  have h1 := hS m (Nat.le_refl _)
  rw [Nat.sub_self] at h1
  have hz : ∀ o : Option Int, e_add (some 0) o = o := fun o => by
    cases o with
    | none => rfl
    | some x => show some (0 + x) = _; rw [Int.zero_add]
  have hl : e_mins (fun t => e_add (q_F g d m t) (q_Rr g d m 0 t)) ((g 168 2).toNat + 1) = q_F g d m (g 168 2).toNat := by
    show e_min (e_mins _ (g 168 2).toNat) (e_add (q_F g d m (g 168 2).toNat) (q_Rr g d m 0 (g 168 2).toNat)) = _
    rw [e_mins_allnone (fun t ht => by
      have : q_Rr g d m 0 t = none := by unfold q_Rr; rw [if_neg (by omega)]
      rw [this]; cases q_F g d m t <;> rfl)]
    have : q_Rr g d m 0 (g 168 2).toNat = some 0 := by unfold q_Rr; rw [if_pos (by omega)]
    rw [this, e_add_comm, hz]; rfl
  have hrr : e_mins (fun t => e_add (q_F g d 0 t) (q_Rr g d m m t)) ((g 168 2).toNat + 1) = q_Rr g d m m 0 := by
    rw [e_mins_0 (fun i a b => by
      cases i with
      | zero => omega
      | succ i => rfl), if_neg (by omega)]
    exact hz _
  rw [← hl, h1, hrr]
/-- the first i from lo that p holds of, or lo + n -/
def e_find (p : Nat → Bool) : Nat → Nat → Nat
  | 0, i => i
  | n + 1, i => if p i = true then i else e_find p n (i + 1)
theorem e_find_spec {p : Nat → Bool} : ∀ {n i : Nat}, i ≤ e_find p n i ∧ e_find p n i ≤ i + n ∧ (∀ j, i ≤ j → j < e_find p n i → p j = false) ∧ (e_find p n i < i + n → p (e_find p n i) = true) := by
  intro n
  induction n with
  | zero => intro i; exact ⟨Nat.le_refl _, Nat.le_refl _, fun j a b => by have : e_find p 0 i = i := rfl; omega, fun h => by have : e_find p 0 i = i := rfl; omega⟩
  | succ n ih =>
    intro i
    by_cases h : p i = true
    · have e : e_find p (n + 1) i = i := if_pos h
      rw [e]
      exact ⟨Nat.le_refl _, by omega, fun j a b => by omega, fun _ => h⟩
    · have e : e_find p (n + 1) i = e_find p n (i + 1) := if_neg h
      obtain ⟨h1, h2, h3, h4⟩ := ih (i := i + 1)
      rw [e]
      refine ⟨by omega, by omega, fun j a b => ?_, fun k => h4 (by omega)⟩
      by_cases e2 : j = i
      · subst e2
        cases hp : p j with
        | false => rfl
        | true => exact absurd hp h
      · exact h3 j (by omega) b
def q_cutp (g : z_St) (d : Int → Int) (m r f t : Nat) : Bool := decide (e_add (q_Rr g d m r t) (q_tab g (d ((m : Int) - (r + 1))) f t) = q_Rr g d m (r + 1) f)
/-- where the WORD ends that begins at f, r WORDS behind it -/
def q_cut (g : z_St) (d : Int → Int) (m r f : Nat) : Nat := e_find (q_cutp g d m r f) ((g 168 2).toNat - f - 1) (f + 1)
/-- where the k-th WORD begins -/
def q_Tk (g : z_St) (d : Int → Int) (m : Nat) : Nat → Nat
  | 0 => 0
  | k + 1 => q_cut g d m (m - (k + 1)) (q_Tk g d m k)
theorem q_cut_spec {g : z_St} {d : Int → Int} {m r f : Nat} {v : Int} (h : q_Rr g d m (r + 1) f = some v) : f < q_cut g d m r f ∧ q_cut g d m r f ≤ (g 168 2).toNat ∧ e_add (q_Rr g d m r (q_cut g d m r f)) (q_tab g (d ((m : Int) - (r + 1))) f (q_cut g d m r f)) = some v ∧ ∀ t, f < t → t < q_cut g d m r f → ¬ e_add (q_Rr g d m r t) (q_tab g (d ((m : Int) - (r + 1))) f t) = some v := by
  have h0 : e_mins (fun i => e_add (q_Rr g d m r (f + 1 + i)) (q_tab g (d ((m : Int) - (r + 1))) f ((f + 1 + i : Nat) : Int))) ((g 168 2).toNat - f) = some v := h
  obtain ⟨i, hi, hv⟩ := e_mins_eq h0
  obtain ⟨s1, s2, s3, s4⟩ := e_find_spec (p := q_cutp g d m r f) (n := (g 168 2).toNat - f - 1) (i := f + 1)
  have hp : ∀ t, q_cutp g d m r f t = true ↔ e_add (q_Rr g d m r t) (q_tab g (d ((m : Int) - (r + 1))) f t) = some v := fun t => by
    unfold q_cutp; rw [h, decide_eq_true_eq]
  have hat : q_cutp g d m r f (q_cut g d m r f) = true := by
    by_cases hlt : q_cut g d m r f < f + 1 + ((g 168 2).toNat - f - 1)
    · exact s4 hlt
    · by_cases e : f + 1 + i < q_cut g d m r f
      · have h9 := s3 (f + 1 + i) (by omega) e
        rw [(hp (f + 1 + i)).mpr hv] at h9; cases h9
      · have e9 : q_cut g d m r f = f + 1 + ((g 168 2).toNat - f - 1) := Nat.le_antisymm s2 (by omega)
        rw [show q_cut g d m r f = f + 1 + i by omega]
        exact (hp _).mpr hv
  refine ⟨s1, by have : q_cut g d m r f ≤ f + 1 + ((g 168 2).toNat - f - 1) := s2; omega, (hp _).mp hat, fun t a b hc => ?_⟩
  have := s3 t (by omega) b
  rw [(hp t).mpr hc] at this; cases this
theorem q_Tk_spec {g : z_St} {d : Int → Int} {m : Nat} {v : Int} (h : q_Rr g d m m 0 = some v) : ∀ k, k ≤ m → (∃ u, q_Rr g d m (m - k) (q_Tk g d m k) = some u) ∧ q_Tk g d m k ≤ (g 168 2).toNat := by
  intro k
  induction k with
  | zero => intro _; exact ⟨⟨v, h⟩, Nat.zero_le _⟩
  | succ k ih =>
    intro hk
    obtain ⟨⟨u, hu⟩, _⟩ := ih (by omega)
    rw [show m - k = (m - (k + 1)) + 1 by omega] at hu
    obtain ⟨h1, h2, h3, _⟩ := q_cut_spec hu
    obtain ⟨y, z, hy, _, _⟩ := e_add_some h3
    exact ⟨⟨y, hy⟩, h2⟩
theorem q_Tk_lt {g : z_St} {d : Int → Int} {m : Nat} {v : Int} (h : q_Rr g d m m 0 = some v) {k : Nat} (hk : k < m) : q_Tk g d m k < q_Tk g d m (k + 1) ∧ ∃ x, q_tab g (d k) (q_Tk g d m k) (q_Tk g d m (k + 1)) = some x := by
  obtain ⟨⟨u, hu⟩, _⟩ := q_Tk_spec h k (by omega)
  rw [show m - k = (m - (k + 1)) + 1 by omega] at hu
  obtain ⟨h1, h2, h3, _⟩ := q_cut_spec hu
  obtain ⟨y, z, _, hz, _⟩ := e_add_some h3
  rw [show (m : Int) - (((m - (k + 1) : Nat) : Int) + 1) = k by omega] at hz
  exact ⟨h1, z, hz⟩
theorem q_Tk_end {g : z_St} (hf : 0 ≤ g 168 2) {d : Int → Int} {m : Nat} {v : Int} (h : q_Rr g d m m 0 = some v) : q_Tk g d m m = (g 168 2).toNat := by
  obtain ⟨⟨u, hu⟩, _⟩ := q_Tk_spec h m (Nat.le_refl _)
  rw [Nat.sub_self] at hu
  unfold q_Rr at hu
  apply Classical.byContradiction
  intro h9
  rw [if_neg (by omega)] at hu
  cases hu
theorem q_Tk_in {g : z_St} (hf : 0 ≤ g 168 2) {d : Int → Int} {m : Nat} {v : Int} (h : q_Rr g d m m 0 = some v) {x : Nat} (hx : x < (g 168 2).toNat) : ∃ k, k < m ∧ q_Tk g d m k ≤ x ∧ x < q_Tk g d m (k + 1) := by
  have hend := q_Tk_end hf h
  have : ∀ n, n ≤ m → x < q_Tk g d m n → ∃ k, k < n ∧ q_Tk g d m k ≤ x ∧ x < q_Tk g d m (k + 1) := by
    intro n
    induction n with
    | zero => intro _ h9; exact absurd h9 (Nat.not_lt_zero _)
    | succ n ih =>
      intro hn hx9
      by_cases h9 : x < q_Tk g d m n
      · obtain ⟨k, k1, k2⟩ := ih (by omega) h9
        exact ⟨k, by omega, k2⟩
      · exact ⟨n, by omega, by omega, hx9⟩
  exact this m (Nat.le_refl _) (by rw [hend]; exact hx)
