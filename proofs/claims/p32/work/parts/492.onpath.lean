-- AN ARC OF THE BEST PATH HAS NO SLACK
theorem q_Tk_u {g : z_St} {d : Int → Int} {m : Nat} {v : Int} (h : q_Rr g d m m 0 = some v) {k : Nat} (hk : k < m) : ∃ u u' s, q_Rr g d m (m - k) (q_Tk g d m k) = some u ∧ q_Rr g d m (m - (k + 1)) (q_Tk g d m (k + 1)) = some u' ∧ q_tab g (d k) (q_Tk g d m k) (q_Tk g d m (k + 1)) = some s ∧ u = u' + s := by
  obtain ⟨⟨u, hu⟩, _⟩ := q_Tk_spec h k (by omega)
  have hu0 := hu
  rw [show m - k = (m - (k + 1)) + 1 by omega] at hu
  obtain ⟨h1, h2, h3, _⟩ := q_cut_spec hu
  obtain ⟨y, z, hy, hz, e⟩ := e_add_some h3
  rw [show (m : Int) - (((m - (k + 1) : Nat) : Int) + 1) = k by omega] at hz
  exact ⟨u, y, z, hu0, hy, hz, e⟩
theorem q_tl_s {g : z_St} {d : Int → Int} {many : Int} {k : Nat} : q_tl g d many (k + 1) = q_tl g d many k + q_dear g (if k = 0 then 5 else d ((k : Int) - 1)) (if (k : Int) = many then 5 else d k) := rfl
theorem q_ahead {g : z_St} {d : Int → Int} {m : Nat} {v : Int} (h : q_Rr g d m m 0 = some v) (hd : ∀ j : Int, 0 ≤ j → j < m → 0 ≤ d j ∧ d j < g 168 18) : ∀ k, k < m → ∃ x u, q_ld g k (d k).toNat (q_Tk g d m k) = some x ∧ q_Rr g d m (m - k) (q_Tk g d m k) = some u ∧ x + u ≤ v + q_tl g d m (k + 1) := by
  intro k
  induction k with
  | zero =>
    intro hk
    have h0 := hd 0 (by omega) (by omega)
    refine ⟨q_dear g 5 (d 0), v, ?_, h, ?_⟩
    · show (if (0 : Nat) = 0 then some (q_dear g 5 ((d ((0 : Nat) : Int)).toNat : Int)) else none) = _
      rw [if_pos rfl, show ((d ((0 : Nat) : Int)).toNat : Int) = d 0 by show ((d 0).toNat : Int) = d 0; omega]
    · rw [q_tl_s, if_pos rfl, if_neg (show ¬ (((0 : Nat) : Int) = (m : Int)) by omega)]
      show _ ≤ v + (0 + q_dear g 5 (d 0))
      omega
  | succ k ih =>
    intro hk
    obtain ⟨x, u, hx, hu, hle⟩ := ih (by omega)
    obtain ⟨u1, u', s, e1, e2, e3, e4⟩ := q_Tk_u h (k := k) (by omega)
    rw [hu] at e1; cases e1
    obtain ⟨hlt, _⟩ := q_Tk_lt h (k := k) (by omega)
    have hdk := hd k (by omega) (by omega)
    have hdk1 := hd ((k + 1 : Nat) : Int) (by omega) (by omega)
    have hbf := e_mins_le (f := fun c => e_add (q_ld g k (d k).toNat c) (q_tab g ((d k).toNat : Int) c (q_Tk g d m (k + 1)))) hlt
    have hval : e_add (q_ld g k (d k).toNat (q_Tk g d m k)) (q_tab g ((d k).toNat : Int) (q_Tk g d m k) (q_Tk g d m (k + 1))) = some (x + s) := by
      rw [show (((d k).toNat : Nat) : Int) = d k by omega, hx, e3]; rfl
    obtain ⟨y, hy, hy2⟩ := hbf _ hval
    have hl := e_mins_le (f := fun v9 => e_add (q_bf g k v9 (q_Tk g d m (k + 1))) (some (q_dear g v9 ((d ((k + 1 : Nat) : Int)).toNat : Int)))) (i := (d k).toNat) (n := (g 168 18).toNat) (by omega)
    have hval2 : e_add (q_bf g k (d k).toNat (q_Tk g d m (k + 1))) (some (q_dear g ((d k).toNat : Int) ((d ((k + 1 : Nat) : Int)).toNat : Int))) = some (y + q_dear g (d k) (d ((k + 1 : Nat) : Int))) := by
      have hy9 : q_bf g k (d k).toNat (q_Tk g d m (k + 1)) = some y := hy
      rw [hy9, show (((d k).toNat : Nat) : Int) = d k by omega, show (((d ((k + 1 : Nat) : Int)).toNat : Nat) : Int) = d ((k + 1 : Nat) : Int) by omega]; rfl
    obtain ⟨z, hz, hz2⟩ := hl _ hval2
    refine ⟨z, u', by rw [q_ld_succ]; exact hz, e2, ?_⟩
    rw [q_tl_s, if_neg (show ¬ (k + 1 = 0) by omega), if_neg (show ¬ (((k + 1 : Nat) : Int) = (m : Int)) by omega), show ((k + 1 : Nat) : Int) - 1 = k by omega]
    omega
theorem q_behind {g : z_St} (hf : 0 ≤ g 168 2) {d : Int → Int} {m : Nat} {v : Int} (h : q_Rr g d m m 0 = some v) (hd : ∀ j : Int, 0 ≤ j → j < m → 0 ≤ d j ∧ d j < g 168 18) : ∀ r k, k + r + 1 = m → ∃ y u, q_bh g r (d k).toNat (q_Tk g d m (k + 1)) = some y ∧ q_Rr g d m (m - (k + 1)) (q_Tk g d m (k + 1)) = some u ∧ y + q_tl g d m (k + 1) ≤ u + q_tl g d m (m + 1) := by
  intro r
  induction r with
  | zero =>
    intro k hk
    have hend := q_Tk_end hf h
    have hdk := hd k (by omega) (by omega)
    have ek : k + 1 = m := by omega
    obtain ⟨⟨u, hu⟩, _⟩ := q_Tk_spec h (k + 1) (by omega)
    have hu9 := hu
    rw [ek, Nat.sub_self] at hu
    rw [hend] at hu
    unfold q_Rr at hu
    rw [if_pos (by omega)] at hu
    cases hu
    refine ⟨q_dear g (d k) 5, 0, ?_, hu9, ?_⟩
    · rw [ek, hend]
      show (if (((g 168 2).toNat : Nat) : Int) = g 168 2 then some (q_dear g ((d k).toNat : Int) 5) else none) = _
      rw [if_pos (by omega), show (((d k).toNat : Nat) : Int) = d k by omega]
    · rw [ek]
      have hs : q_tl g d m (m + 1) = q_tl g d m m + q_dear g (d k) 5 := by
        rw [q_tl_s, if_neg (show ¬ (m = 0) by omega), if_pos rfl, show (m : Int) - 1 = k by omega]
      omega
  | succ r ih =>
    intro k hk
    obtain ⟨y, u, hy, hu, hle⟩ := ih (k + 1) (by omega)
    obtain ⟨u1, u', s, e1, e2, e3, e4⟩ := q_Tk_u h (k := k + 1) (by omega)
    rw [hu] at e2; cases e2
    obtain ⟨hlt, _⟩ := q_Tk_lt h (k := k + 1) (by omega)
    have hT := (q_Tk_spec h (k + 1 + 1) (by omega)).2
    have hdk := hd k (by omega) (by omega)
    have hdk1 := hd ((k + 1 : Nat) : Int) (by omega) (by omega)
    obtain ⟨T1, hT1⟩ : ∃ T, q_Tk g d m (k + 1) = T := ⟨_, rfl⟩
    obtain ⟨T2, hT2⟩ : ∃ T, q_Tk g d m (k + 1 + 1) = T := ⟨_, rfl⟩
    rw [hT1] at hlt e1 e3
    rw [hT2] at hlt hT hy e3
    have h1 := e_mins_le (f := fun j => e_mins (fun v9 => e_add (e_add (q_bh g r v9 (T1 + 1 + j)) (q_tab g v9 T1 ((T1 + 1 + j : Nat) : Int))) (some (q_dear g ((d k).toNat : Int) v9))) (g 168 18).toNat) (i := T2 - T1 - 1) (n := (g 168 2).toNat - T1) (by omega)
    have h2 := e_mins_le (f := fun v9 : Nat => e_add (e_add (q_bh g r v9 (T1 + 1 + (T2 - T1 - 1))) (q_tab g v9 T1 ((T1 + 1 + (T2 - T1 - 1) : Nat) : Int))) (some (q_dear g ((d k).toNat : Int) v9))) (i := (d ((k + 1 : Nat) : Int)).toNat) (n := (g 168 18).toNat) (by omega)
    have hval : e_add (e_add (q_bh g r (d ((k + 1 : Nat) : Int)).toNat (T1 + 1 + (T2 - T1 - 1))) (q_tab g ((d ((k + 1 : Nat) : Int)).toNat : Int) T1 ((T1 + 1 + (T2 - T1 - 1) : Nat) : Int))) (some (q_dear g ((d k).toNat : Int) ((d ((k + 1 : Nat) : Int)).toNat : Int))) = some (y + s + q_dear g (d k) (d ((k + 1 : Nat) : Int))) := by
      rw [show T1 + 1 + (T2 - T1 - 1) = T2 by omega, hy, show (((d ((k + 1 : Nat) : Int)).toNat : Nat) : Int) = d ((k + 1 : Nat) : Int) by omega, e3, show (((d k).toNat : Nat) : Int) = d k by omega]
      rfl
    obtain ⟨z, hz, hz2⟩ := e_le_trans h1 h2 _ hval
    refine ⟨z, u1, by rw [q_bh_s, hT1]; exact hz, by rw [hT1]; exact e1, ?_⟩
    have hs : q_tl g d m (k + 1 + 1) = q_tl g d m (k + 1) + q_dear g (d k) (d ((k + 1 : Nat) : Int)) := by
      rw [q_tl_s, if_neg (show ¬ (k + 1 = 0) by omega), if_neg (show ¬ (((k + 1 : Nat) : Int) = (m : Int)) by omega), show ((k + 1 : Nat) : Int) - 1 = k by omega]
    omega
theorem q_onpath {g : z_St} (hB : q_RB g) {b n : Nat} (hb : q_bestRow g b n) {k : Nat} (hk : k < (q_many n).toNat) {beam : Int} (hbm : 0 ≤ beam) : q_one g beam (q_dig n k).toNat (q_Tk g (q_dig n) (q_many n).toNat k) (q_Tk g (q_dig n) (q_many n).toNat (k + 1)) = 1 := by
  have hf1 := hB.1.1
  have hmb := q_many_bd n
  obtain ⟨hrow, hf0, v, hv⟩ := q_bestRow_R hB hb
  have hd : ∀ j : Int, 0 ≤ j → j < ((q_many n).toNat : Nat) → 0 ≤ q_dig n j ∧ q_dig n j < g 168 18 := fun j p q => hrow.2 j p (by omega)
  obtain ⟨x, u, hx, hu, hle⟩ := q_ahead hv hd k hk
  obtain ⟨y, u', hy, hu', hle'⟩ := q_behind hf1.1 hv hd ((q_many n).toNat - k - 1) k (by omega)
  obtain ⟨u1, u2, s, e1, e2, e3, e4⟩ := q_Tk_u hv hk
  rw [hu] at e1; cases e1
  rw [hu'] at e2; cases e2
  have hdk := hd k (by omega) (by omega)
  -- the WEIGHT of the row
  obtain ⟨r1, xw, r2, r3⟩ := hb
  have hW : q_wl g b = some (v + q_tl g (q_dig n) (q_many n) ((q_many n).toNat + 1)) := by
    rw [q_wl_at r1]
    unfold q_wt q_W
    rw [if_pos hf0, q_F_R hf1.1, hv]; rfl
  rw [hW] at r2; cases r2
  have hbw := q_bw_of (List.getElem?_eq_some_iff.mp r1).1 hW (fun i y a b => (r3 i y a b).1)
  have hmm : (((q_many n).toNat : Nat) : Int) = q_many n := by omega
  rw [hmm] at hle hle'
  -- through the ARC
  have h1 := e_mins_le (f := fun m9 => q_bh g m9 (q_dig n k).toNat (q_Tk g (q_dig n) (q_many n).toNat (k + 1))) (i := (q_many n).toNat - k - 1) (n := 3 - k + 1) (by omega)
  obtain ⟨y1, hy1, hy1le⟩ := h1 y hy
  have h2 := e_mins_le (f := fun o => e_add (q_ld g o (q_dig n k).toNat (q_Tk g (q_dig n) (q_many n).toNat k)) (q_tr g (3 - o) (q_dig n k).toNat (q_Tk g (q_dig n) (q_many n).toNat (k + 1)))) (i := k) (n := 4) (by omega)
  have hval : e_add (q_ld g k (q_dig n k).toNat (q_Tk g (q_dig n) (q_many n).toNat k)) (q_tr g (3 - k) (q_dig n k).toNat (q_Tk g (q_dig n) (q_many n).toNat (k + 1))) = some (x + y1) := by
    have hy9 : q_tr g (3 - k) (q_dig n k).toNat (q_Tk g (q_dig n) (q_many n).toNat (k + 1)) = some y1 := hy1
    rw [hx, hy9]; rfl
  obtain ⟨z, hz, hzle⟩ := h2 _ hval
  have hthr : q_thr g (q_dig n k).toNat (q_Tk g (q_dig n) (q_many n).toNat k) (q_Tk g (q_dig n) (q_many n).toNat (k + 1)) = some (z + s) := by
    unfold q_thr
    rw [show (((q_dig n k).toNat : Nat) : Int) = q_dig n k by omega, e3]
    have hz9 : e_mins (fun o => e_add (q_ld g o (q_dig n k).toNat (q_Tk g (q_dig n) (q_many n).toNat k)) (q_tr g (3 - o) (q_dig n k).toNat (q_Tk g (q_dig n) (q_many n).toNat (k + 1)))) 4 = some z := hz
    rw [hz9]; rfl
  unfold q_one q_sl
  rw [hthr, hbw]
  show (if z + s - (v + q_tl g (q_dig n) (q_many n) ((q_many n).toNat + 1)) ≤ beam then (1 : Int) else 0) = 1
  rw [if_pos (by omega)]
-- SUMS THAT ARE AT LEAST ONE
theorem e_sum_mono {f h : Nat → Int} : ∀ {n : Nat}, (∀ i, i < n → f i ≤ h i) → e_sum f n ≤ e_sum h n := by
  intro n
  induction n with
  | zero => intro _; exact Int.le_refl 0
  | succ n ih =>
    intro k
    have h1 := ih fun i hi => k i (by omega)
    have h2 := k n (by omega)
    show e_sum f n + f n ≤ e_sum h n + h n
    omega
theorem e_sum_one {f : Nat → Int} : ∀ {n a : Nat}, a < n → (∀ i, i < n → 0 ≤ f i) → 1 ≤ f a → 1 ≤ e_sum f n := by
  intro n
  induction n with
  | zero => intro a h; omega
  | succ n ih =>
    intro a ha h0 h1
    show 1 ≤ e_sum f n + f n
    have hn := h0 n (by omega)
    by_cases e : a = n
    · subst e
      have : 0 ≤ e_sum f a := by
        have := e_sum_mono (f := fun _ => 0) (h := f) (n := a) (fun i hi => h0 i (by omega))
        rw [e_sum_zero] at this; exact this
      omega
    · have := ih (by omega) (fun i hi => h0 i (by omega)) h1
      omega
theorem q_nA_bd {g : z_St} (hB : q_RB g) {beam : Int} {frame : Nat} (hfr : frame < g 168 2) {only : Int} : 0 ≤ q_nAround g beam frame only ∧ q_nAround g beam frame only ≤ q_nAround g beam frame (-1) ∧ q_nAround g beam frame only ≤ 400 := by
  have hf1 := hB.1.1
  have hw1 := hB.2.2.2.2.1.1
  have h0 : ∀ w f t : Nat, 0 ≤ (if only = -1 ∨ only = (w : Int) then q_one g beam w f t else 0) ∧ (if only = -1 ∨ only = (w : Int) then q_one g beam w f t else 0) ≤ 1 := fun w f t => by
    have := q_one_bd (g := g) (beam := beam) (w := w) (f := f) (t := t)
    split <;> omega
  have h1 : ∀ f t : Nat, 0 ≤ e_sum (fun w => if only = -1 ∨ only = (w : Int) then q_one g beam w f t else 0) (g 168 18).toNat ∧ e_sum (fun w => if only = -1 ∨ only = (w : Int) then q_one g beam w f t else 0) (g 168 18).toNat ≤ 5 := fun f t => by
    have := e_sum_bd (C := 1) (n := (g 168 18).toNat) (f := fun w => if only = -1 ∨ only = (w : Int) then q_one g beam w f t else 0) (fun w _ => h0 w f t)
    omega
  have h2 : ∀ f : Nat, 0 ≤ e_sum (fun k => e_sum (fun w => if only = -1 ∨ only = (w : Int) then q_one g beam w f (frame + 1 + k) else 0) (g 168 18).toNat) ((g 168 2).toNat - frame) ∧ e_sum (fun k => e_sum (fun w => if only = -1 ∨ only = (w : Int) then q_one g beam w f (frame + 1 + k) else 0) (g 168 18).toNat) ((g 168 2).toNat - frame) ≤ 5 * (16 - frame) := fun f => by
    have := e_sum_bd (C := 5) (n := (g 168 2).toNat - frame) (f := fun k => e_sum (fun w => if only = -1 ∨ only = (w : Int) then q_one g beam w f (frame + 1 + k) else 0) (g 168 18).toNat) (fun k _ => h1 f (frame + 1 + k))
    omega
  have h3 : 0 ≤ q_nAround g beam frame only ∧ q_nAround g beam frame only ≤ ((frame + 1 : Nat) : Int) * (5 * (16 - frame)) := e_sum_bd (C := 5 * (16 - frame)) (n := frame + 1) (fun f _ => h2 f)
  refine ⟨h3.1, ?_, ?_⟩
  · unfold q_nAround
    refine e_sum_mono fun f _ => e_sum_mono fun k _ => e_sum_mono fun w _ => ?_
    rw [if_pos (Or.inl rfl)]
    have := q_one_bd (g := g) (beam := beam) (w := w) (f := f) (t := frame + 1 + k)
    split <;> omega
  · have hfr16 : frame = 0 ∨ frame = 1 ∨ frame = 2 ∨ frame = 3 ∨ frame = 4 ∨ frame = 5 ∨ frame = 6 ∨ frame = 7 ∨ frame = 8 ∨ frame = 9 ∨ frame = 10 ∨ frame = 11 ∨ frame = 12 ∨ frame = 13 ∨ frame = 14 ∨ frame = 15 := by omega
    have h4 := h3.2
    refine Int.le_trans h4 ?_
    clear h0 h1 h2 h3 h4 hfr
    rcases hfr16 with rfl | rfl | rfl | rfl | rfl | rfl | rfl | rfl | rfl | rfl | rfl | rfl | rfl | rfl | rfl | rfl <;> decide
theorem q_nA_one {g : z_St} (hB : q_RB g) {b n : Nat} (hb : q_bestRow g b n) {k i : Nat} (hk : k < (q_many n).toNat) (hi : q_Tk g (q_dig n) (q_many n).toNat k + i < q_Tk g (q_dig n) (q_many n).toNat (k + 1)) {beam : Int} (hbm : 0 ≤ beam) : 1 ≤ q_nAround g beam (q_Tk g (q_dig n) (q_many n).toNat k + i) (q_dig n k) := by
  have hf1 := hB.1.1
  have hw1 := hB.2.2.2.2.1.1
  have hmb := q_many_bd n
  obtain ⟨hrow, hf0, v, hv⟩ := q_bestRow_R hB hb
  have hdk := hrow.2 k (by omega) (by omega)
  have hT := (q_Tk_spec hv (k + 1) (by omega)).2
  have h1 := q_onpath hB hb hk hbm
  obtain ⟨T1, hT1⟩ : ∃ T, q_Tk g (q_dig n) (q_many n).toNat k = T := ⟨_, rfl⟩
  obtain ⟨T2, hT2⟩ : ∃ T, q_Tk g (q_dig n) (q_many n).toNat (k + 1) = T := ⟨_, rfl⟩
  rw [hT1, hT2] at hi h1
  rw [hT1]
  rw [hT2] at hT
  have nn : ∀ w f t : Nat, 0 ≤ (if q_dig n k = -1 ∨ q_dig n k = (w : Int) then q_one g beam w f t else 0) := fun w f t => by
    have := q_one_bd (g := g) (beam := beam) (w := w) (f := f) (t := t)
    split <;> omega
  have nn1 : ∀ f t : Nat, 0 ≤ e_sum (fun w : Nat => if q_dig n k = -1 ∨ q_dig n k = (w : Int) then q_one g beam w f t else 0) (g 168 18).toNat := fun f t => by
    have := e_sum_mono (f := fun _ => 0) (n := (g 168 18).toNat) (h := fun w : Nat => if q_dig n k = -1 ∨ q_dig n k = (w : Int) then q_one g beam w f t else 0) (fun w _ => nn w f t)
    rw [e_sum_zero] at this; exact this
  have nn2 : ∀ f : Nat, 0 ≤ e_sum (fun j => e_sum (fun w : Nat => if q_dig n k = -1 ∨ q_dig n k = (w : Int) then q_one g beam w f (T1 + i + 1 + j) else 0) (g 168 18).toNat) ((g 168 2).toNat - (T1 + i)) := fun f => by
    have := e_sum_mono (f := fun _ => 0) (n := (g 168 2).toNat - (T1 + i)) (h := fun j => e_sum (fun w : Nat => if q_dig n k = -1 ∨ q_dig n k = (w : Int) then q_one g beam w f (T1 + i + 1 + j) else 0) (g 168 18).toNat) (fun j _ => nn1 f (T1 + i + 1 + j))
    rw [e_sum_zero] at this; exact this
  unfold q_nAround
  refine e_sum_one (a := T1) (by omega) (fun f _ => nn2 f) ?_
  refine e_sum_one (a := T2 - (T1 + i) - 1) (by omega) (fun j _ => nn1 T1 (T1 + i + 1 + j)) ?_
  refine e_sum_one (a := (q_dig n k).toNat) (by omega) (fun w _ => nn w T1 _) ?_
  rw [if_pos (Or.inr (by omega)), show T1 + i + 1 + (T2 - (T1 + i) - 1) = T2 by omega, h1]
  exact Int.le_refl 1
