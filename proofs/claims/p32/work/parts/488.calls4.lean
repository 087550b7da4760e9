-- THE CALLS: path, over, sum
theorem s_X12_path {g st0 : z_St} (hS : q_same g st0) (hB : q_RB g) {x1 x2 : Int} (h1 : z32 x1) (h2 : z32 x2) : q_ok (J_X12_path x1 x2 st0) (fun r => q_K g st0 r.2 ∧ (¬ (0 ≤ x1 ∧ x1 < g 168 2) → r.2 168 0 = 1) ∧ (0 ≤ x1 ∧ x1 < g 168 2 → ¬ (0 ≤ x2 ∧ x2 ≤ 5) → r.2 168 0 = 2) ∧ (0 ≤ x1 ∧ x1 < g 168 2 → 0 ≤ x2 ∧ x2 ≤ 5 → (q_bw g = none → r.2 168 0 = 3) ∧ ∀ b n : Nat, q_bestRow g b n → r.2 168 0 = 0 ∧ ∀ k i : Nat, k < (q_many n).toNat → x1 = ((q_Tk g (q_dig n) (q_many n).toNat k + i : Nat) : Int) → q_Tk g (q_dig n) (q_many n).toNat k + i < q_Tk g (q_dig n) (q_many n).toNat (k + 1) → r.1 = q_tv g (q_dig n) (q_many n).toNat k i x2)) := by
  have hf1 := hB.1.1
  have hlen := q_len_le hB
  have a1 : -2147483648 ≤ x1 ∧ x1 ≤ 2147483647 := h1
  have a2 : -2147483648 ≤ x2 ∧ x2 ≤ 2147483647 := h2
  have e2 := hS.2 2 (by decide) (by decide)
  have w42 : ∀ s0 : Int, 0 < s0 ∧ s0 < 10 → q_ok (J_X12_path_42 s0 st0) (fun r => q_K g st0 r.2 ∧ r.2 168 0 = s0) := fun s0 h => by
    simp only [J_X12_path_42, q_g, q_b, q_let, q_ite, q_some, z32, z64, true_or, or_true, true_and, and_true]
    exact q_eq (s_holds_p h) ⟨q_K_of hS (fun x a => q_up_row (by omega)) (fun j a b => z_up_n (by omega)), by show z_up st0 168 0 s0 168 0 = s0; rw [z_up_at]⟩
  simp only [J_X12_path, J_X12_path_32, q_g, q_b, q_let, q_ite, q_some, z32, z64, true_or, or_true, true_and, and_true]
  rw [e2]
  refine ⟨h1, by omega, ?_⟩
  refine q_eq (s_X12_in (by omega)) ?_
  refine ⟨by unfold q_in; split <;> decide, fun h => ?_, fun h => ⟨h2, ?_⟩⟩
  · have k := q_in_0' h
    refine ⟨by rw [h]; decide, fun _ => q_mono (w42 1 (by decide)) ?_, fun h9 => absurd h h9⟩
    rintro r ⟨b1, b2⟩
    exact ⟨b1, fun _ => b2, fun h9 => by omega, fun h9 => by omega⟩
  · have k := q_in_n0 h
    refine q_eq (s_X12_in (by omega)) ?_
    refine ⟨by unfold q_in; split <;> decide, fun hh => ?_, fun hh => ?_⟩
    · have k2 := q_in_0' hh
      refine ⟨by unfold q_in; split <;> decide, fun h9 => absurd h9 h, fun _ => q_mono (w42 2 (by decide)) ?_⟩
      rintro r ⟨b1, b2⟩
      exact ⟨b1, fun h9 => by omega, fun _ _ => b2, fun _ h9 => absurd h9 k2⟩
    · have k2 := q_in_n0 hh
      refine q_mono (s_X12_laysPath hS hB) ?_
      rintro ⟨b, st1⟩ ⟨c1, c2, c3, c4⟩
      dsimp only at c1 c2 c3 c4 ⊢
      have hK1 : ∀ v, q_K g st0 (z_up st1 168 0 v) := fun v => q_K_of hS (fun x p => by rw [q_up_row (by omega)]; exact c1 x (by omega)) (fun j p q => by rw [z_up_n (by omega)]; exact c2 j (by omega))
      have hfl := q_bw_flag c3
      refine ⟨by omega, fun hb => ?_, fun hb => ?_⟩
      · simp only [J_X12_path_61, q_g, q_b, q_let, q_ite, q_some, z32, z64, true_or, or_true, true_and, and_true]
        refine q_eq (s_holds_p (by decide)) ?_
        dsimp only
        refine ⟨by decide, fun h9 => absurd h9 (by decide), fun _ => ⟨hK1 3, fun h9 => by omega, fun _ h9 => absurd k2 h9, fun _ _ => ⟨fun _ => z_up_at, fun b' n' hb' => ?_⟩⟩⟩
        obtain ⟨q1, y, q2, _⟩ := hb'
        obtain ⟨z, hz, _⟩ := e_mins_le (f := q_wl g) (List.getElem?_eq_some_iff.mp q1).1 y q2
        have hz2 : q_bw g = some z := hz
        rw [(hfl.1 hb).2] at hz2; cases hz2
      · simp only [J_X12_path_61, q_g, q_b, q_let, q_ite, q_some, z32, z64, true_or, or_true, true_and, and_true]
        refine q_eq s_holds_0 ?_
        dsimp only
        refine ⟨by decide, fun _ => ⟨by omega, hK1 0, fun h9 => by omega, fun _ h9 => absurd k2 h9, fun _ _ => ⟨fun hn => ?_, fun b' n' hb' => ⟨z_up_at, fun kk i' hk hx hi => ?_⟩⟩⟩, fun h9 => absurd rfl h9⟩
        · rcases q_bw_first c3 with ⟨h9, _⟩ | ⟨k9, n9, x9, _, _, _, h9, _⟩
          · omega
          · rw [hn] at h9; cases h9
        · rw [q_up_row (by decide), hx]
          exact c4 b' n' hb' kk i' hk hi x2 k2.1 (by omega)
theorem q_best_ex {g : z_St} (hn : q_bw g ≠ none) : ∃ b n : Nat, q_bestRow g b n := by
  have hg : ∀ i, i < q_len g → ∃ n, (q_rows g)[i]? = some n := fun i hi => ⟨_, List.getElem?_eq_getElem hi⟩
  -- the first of the least
  have key : ∀ m, m ≤ q_len g → (∀ i, i < m → q_wl g i = none) ∨ ∃ k x, k < m ∧ q_wl g k = some x ∧ ∀ i y, i < m → q_wl g i = some y → x ≤ y ∧ (i < k → x < y) := by
    intro m
    induction m with
    | zero => intro _; exact Or.inl fun i hi => by omega
    | succ m ih =>
      intro hm
      cases hw : q_wl g m with
      | none =>
        rcases ih (by omega) with h | ⟨k, x, h1, h2, h3⟩
        · refine Or.inl fun i hi => ?_
          by_cases e : i = m
          · subst e; exact hw
          · exact h i (by omega)
        · refine Or.inr ⟨k, x, by omega, h2, fun i y hi hy => ?_⟩
          by_cases e : i = m
          · subst e; rw [hw] at hy; cases hy
          · exact h3 i y (by omega) hy
      | some z =>
        rcases ih (by omega) with h | ⟨k, x, h1, h2, h3⟩
        · refine Or.inr ⟨m, z, by omega, hw, fun i y hi hy => ?_⟩
          by_cases e : i = m
          · subst e; rw [hw] at hy; cases hy; exact ⟨Int.le_refl _, fun h => by omega⟩
          · rw [h i (by omega)] at hy; cases hy
        · by_cases hz : z < x
          · refine Or.inr ⟨m, z, by omega, hw, fun i y hi hy => ?_⟩
            by_cases e : i = m
            · subst e; rw [hw] at hy; cases hy; exact ⟨Int.le_refl _, fun h => by omega⟩
            · have := h3 i y (by omega) hy; exact ⟨by omega, fun _ => by omega⟩
          · refine Or.inr ⟨k, x, by omega, h2, fun i y hi hy => ?_⟩
            by_cases e : i = m
            · subst e; rw [hw] at hy; cases hy; exact ⟨by omega, fun h => by omega⟩
            · exact h3 i y (by omega) hy
  rcases key (q_len g) (Nat.le_refl _) with h | ⟨k, x, h1, h2, h3⟩
  · exact absurd (e_mins_allnone h) hn
  · obtain ⟨n, hn9⟩ := hg k h1
    exact ⟨k, n, hn9, x, h2, h3⟩
theorem q_tv_32 {g : z_St} (hB : q_RB g) {b n : Nat} (hb : q_bestRow g b n) {k i : Nat} (hk : k < (q_many n).toNat) (hi : q_Tk g (q_dig n) (q_many n).toNat k + i < q_Tk g (q_dig n) (q_many n).toNat (k + 1)) {c : Int} : 0 ≤ q_tv g (q_dig n) (q_many n).toNat k i c ∧ q_tv g (q_dig n) (q_many n).toNat k i c ≤ 5 := by
  have hf1 := hB.1.1
  have hw1 := hB.2.2.2.2.1.1
  obtain ⟨hrow, hf0, v, hv⟩ := q_bestRow_R hB hb
  have hmb := q_many_bd n
  have hdk := hrow.2 k (by omega) (by omega)
  have hw2 := hB.2.2.2.2.1.2.1 (q_dig n k) (by omega) (by omega)
  obtain ⟨hlt1, y, hy⟩ := q_Tk_lt hv hk
  have hTk1 := (q_Tk_spec hv (k + 1) (by omega)).2
  obtain ⟨hc1, u2, hu2, _⟩ := q_chs_some hB (w := q_dig n k) (f := (q_Tk g (q_dig n) (q_many n).toNat k : Nat)) (t := (q_Tk g (q_dig n) (q_many n).toNat (k + 1) : Nat)) (by omega) hy
  have hcb := q_chs_bd (g := g) (w := q_dig n k) (f := (q_Tk g (q_dig n) (q_many n).toNat k : Nat)) (t := (q_Tk g (q_dig n) (q_many n).toNat (k + 1) : Nat))
  have hsa := q_said_of hB.2.2.2.2.1 (w := q_dig n k) (k := q_chs g (q_dig n k) (q_Tk g (q_dig n) (q_many n).toNat k : Nat) (q_Tk g (q_dig n) (q_many n).toNat (k + 1) : Nat)) (by omega)
  have hs2 := hsa.2.1
  rw [q_take_Tl (by omega), show (((q_Tk g (q_dig n) (q_many n).toNat (k + 1) : Nat) : Int) - (q_Tk g (q_dig n) (q_many n).toNat k : Nat)).toNat = q_Tk g (q_dig n) (q_many n).toNat (k + 1) - q_Tk g (q_dig n) (q_many n).toNat k by omega] at hu2
  have hks := (q_ks_spec hu2 i (by omega)).2.2 (by omega)
  have hkb := q_kind_bd hB hsa (p := (q_ks g (2 * q_dig n k + q_chs g (q_dig n k) (q_Tk g (q_dig n) (q_many n).toNat k : Nat) (q_Tk g (q_dig n) (q_many n).toNat (k + 1) : Nat)) (q_Tk g (q_dig n) (q_many n).toNat (k + 1) : Nat) (q_Tk g (q_dig n) (q_many n).toNat (k + 1) - q_Tk g (q_dig n) (q_many n).toNat k) i : Nat)) (by omega)
  have hn9 := hB.2.2.1.1
  rw [q_tv_tw]
  unfold q_tw
  (repeat' split) <;> omega
theorem j_26 {g st : z_St} {f : Int → Int} {i : Int} (h : q_INV g st) (hf : ∀ j, z32 (f j)) : q_ok (JL_26 f i st) (fun st' => q_INV g st') := by
  have hB := h.2.1
  have hf1 := hB.1.1
  have e12 := h.2.2.1.1.1
  have h1 : -2147483648 ≤ f (i + 1) ∧ f (i + 1) ≤ 2147483647 := hf (i + 1)
  have hR := fun s (hs : q_same g s) => s_X12_path hs hB (hf (i + 1)) (hf (i + 2))
  by_cases hc : 0 ≤ f (i + 1) ∧ f (i + 1) < g 168 2
  · by_cases hw : 0 ≤ f (i + 2) ∧ f (i + 2) ≤ 5
    · by_cases hn : q_bw g = none
      · refine j_I (code := 3) (val := 0) (by decide) (fun h9 => absurd h9 (by decide)) (l_n (X := J_X11_path (f (i + 1)) (f (i + 2)) st) (e := 2) (by decide) ?_ (fun q he hq => by unfold J_L_path; rw [hq]; simp only [he]; rfl)) (fun s hs => q_mono (hR s hs.1) (fun q hq => ⟨hq.1, (hq.2.2.2 hc hw).1 hn, fun h9 => absurd h9 (by decide)⟩))
        unfold J_X11_path
        refine q_xl (s_index_y ⟨hf (i + 1), by rw [e12]; exact ⟨by omega, by omega⟩⟩ (by rw [e12]; exact hc)) ?_
        refine q_xl (s_range_y ⟨hf (i + 2), by decide, by decide⟩ hw) ?_
        refine q_xok (q_mono (s_checkBest h) ?_)
        intro r hr
        cases r with
        | inl s => exact absurd hn hr.1
        | inr q => exact ⟨_, rfl, hr.2.2.1, hr.2.1⟩
      · obtain ⟨b, n, hb⟩ := q_best_ex hn
        obtain ⟨k, i9, k1, k2, k3⟩ := q_path_at hB hb hc
        have hv := q_tv_32 hB hb k1 k3 (c := f (i + 2))
        refine j_I (code := 0) (val := q_tv g (q_dig n) (q_many n).toNat k i9 (f (i + 2))) (by decide) (fun _ => ⟨by omega, by omega⟩) (l_y (X := J_X11_path (f (i + 1)) (f (i + 2)) st) ?_ (fun q h9 hq => by unfold J_L_path; rw [hq]; show z_g (z32 q.1) _ = _; unfold z_g; rw [if_pos (show z32 q.1 from by rw [h9]; exact ⟨by omega, by omega⟩)])) (fun s hs => q_mono (hR s hs.1) (fun q hq => ⟨hq.1, ((hq.2.2.2 hc hw).2 b n hb).1, fun _ => ((hq.2.2.2 hc hw).2 b n hb).2 k i9 k1 k2 k3⟩))
        unfold J_X11_path
        refine q_xl (s_index_y ⟨hf (i + 1), by rw [e12]; exact ⟨by omega, by omega⟩⟩ (by rw [e12]; exact hc)) ?_
        refine q_xl (s_range_y ⟨hf (i + 2), by decide, by decide⟩ hw) ?_
        refine q_xok (q_mono (s_checkBest h) ?_)
        intro r hr
        cases r with
        | inr q => exact absurd hr.1 hn
        | inl s =>
          have hr2 := hr.2
          dsimp only
          simp only [q_g, q_b, q_let, q_ite, q_some, z32, z64, true_or, or_true, true_and, and_true]
          refine q_mono (s_readyTrack hr2.1 hn) ?_
          rintro st2 ⟨b1, b2, b3⟩
          refine ⟨by omega, by omega, _, rfl, b1, ?_⟩
          have := b2 b n hb k i9 k1 k3 (f (i + 2)) hw.1 (by omega)
          rw [← k2] at this
          exact this
    · refine j_I (code := 2) (val := 0) (by decide) (fun h9 => absurd h9 (by decide)) (l_n (X := J_X11_path (f (i + 1)) (f (i + 2)) st) (e := 1) (by decide) ?_ (fun q he hq => by unfold J_L_path; rw [hq]; simp only [he]; rfl)) (fun s hs => q_mono (hR s hs.1) (fun q hq => ⟨hq.1, hq.2.2.1 hc hw, fun h9 => absurd h9 (by decide)⟩))
      unfold J_X11_path
      refine q_xl (s_index_y ⟨hf (i + 1), by rw [e12]; exact ⟨by omega, by omega⟩⟩ (by rw [e12]; exact hc)) ?_
      exact q_xr (s_range_n ⟨hf (i + 2), by decide, by decide⟩ hw) ⟨_, rfl, h, rfl⟩
  · refine j_I (code := 1) (val := 0) (by decide) (fun h9 => absurd h9 (by decide)) (l_n (X := J_X11_path (f (i + 1)) (f (i + 2)) st) (e := 3) (by decide) ?_ (fun q he hq => by unfold J_L_path; rw [hq]; simp only [he]; rfl)) (fun s hs => q_mono (hR s hs.1) (fun q hq => ⟨hq.1, hq.2.1 hc, fun h9 => absurd h9 (by decide)⟩))
    unfold J_X11_path
    exact q_xr (s_index_n ⟨hf (i + 1), by rw [e12]; exact ⟨by omega, by omega⟩⟩ (by rw [e12]; exact hc)) ⟨_, rfl, h, rfl⟩
