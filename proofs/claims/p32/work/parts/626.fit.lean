-- WHAT CHANGES THE CLASS: fit
theorem e_sum_lh {f : Nat → Int} {lo hi : Int} : ∀ {n : Nat}, (∀ i, i < n → lo ≤ f i ∧ f i ≤ hi) → (n : Int) * lo ≤ e_sum f n ∧ e_sum f n ≤ (n : Int) * hi := by
  intro n
  induction n with
  | zero => intro _; exact ⟨by show ((0 : Nat) : Int) * lo ≤ 0; simp, by show (0 : Int) ≤ ((0 : Nat) : Int) * hi; simp⟩
  | succ n ih =>
    intro h
    have i1 := ih (fun i hi => h i (by omega))
    have i2 := h n (by omega)
    have e1 : ((n + 1 : Nat) : Int) * lo = n * lo + lo := by rw [Int.natCast_add, Int.add_mul]; simp
    have e2 : ((n + 1 : Nat) : Int) * hi = n * hi + hi := by rw [Int.natCast_add, Int.add_mul]; simp
    have e3 : e_sum f (n + 1) = e_sum f n + f n := rfl
    rw [e1, e2, e3]
    omega
theorem q_ns_bd {g : z_St} {a b : Nat → Int} {w : Nat} (hf0 : 0 < g 168 2) (hx : ∀ fr : Nat, fr < g 168 2 → -60 ≤ g 169 (3 * (fr : Int) + w) - q_lies g (a fr) (b fr) w ∧ g 169 (3 * (fr : Int) + w) - q_lies g (a fr) (b fr) w ≤ 60) : -60 ≤ q_ns g a b w ∧ q_ns g a b w ≤ 60 := by
  obtain ⟨sh, hsh⟩ : ∃ sh, g 170 (3 * g 168 4 + w) = sh := ⟨_, rfl⟩
  obtain ⟨n, hn⟩ : ∃ n : Nat, g 168 2 = n := ⟨(g 168 2).toNat, by omega⟩
  have hS : (n : Int) * (-60 - sh) ≤ q_sumA g a b w ∧ q_sumA g a b w ≤ (n : Int) * (60 - sh) := by
    unfold q_sumA
    rw [hn, Int.toNat_natCast, hsh]
    refine e_sum_lh (fun i hi => ?_)
    have := hx i (by omega)
    omega
  have h1 : -60 - sh ≤ q_sumA g a b w / g 168 2 := Int.le_ediv_of_mul_le hf0 (by rw [hn, Int.mul_comm]; exact hS.1)
  have h2 : q_sumA g a b w / g 168 2 ≤ 60 - sh := by
    have : q_sumA g a b w / g 168 2 < 60 - sh + 1 := Int.ediv_lt_of_lt_mul hf0 (by rw [hn, Int.mul_comm, Int.mul_add]; have := hS.2; omega)
    omega
  unfold q_ns q_clip
  rw [hsh]
  (repeat' split) <;> omega
theorem lw_leastWeight {a b : z_St} (h : ag a b) : J_X5_leastWeight b = J_X5_leastWeight a := by
  unfold J_X5_leastWeight J_X5_leastWeight_23
  rw [h 134 (by decide), h 136 (by decide)]
theorem d_fit_n {g st : z_St} (h : q_INV g st) (hn : q_bw g = none) {x b c d : Int} : q_ok (J_L_does 25 x b c d st) (q_ans g (-1004)) := by
  show q_ok (z_xd (J_X11_fit st) _) _
  refine xd_n (e := 2) (by decide) ?_
  unfold J_X11_fit
  refine q_xok (q_mono (s_checkBest h) ?_)
  intro r hr
  cases r with
  | inl s => exact absurd hn hr.1
  | inr q => exact ⟨_, rfl, hr.2.2.1, hr.2.1⟩
theorem d_fit {g st : z_St} (h : q_INV g st) (hn : q_bw g ≠ none) {x b9 c d : Int} : q_ok (J_L_does 25 x b9 c d st) (fun r => (∃ g', q_INV g' r.2 ∧ q_bw g' = some r.1) ∧ (∀ y, 1 ≤ y → y ≤ 60 → y ≠ 20 + g 168 4 → r.2 y = st y) ∧ (∀ j, r.2 89 j = st 89 j) ∧ 0 < g 168 2 ∧ ∃ a b : Nat → Int, (∀ fr : Nat, fr < g 168 2 → (0 ≤ a fr ∧ a fr ≤ 5) ∧ 0 ≤ b fr ∧ b fr ≤ 3) ∧ ∀ w : Nat, w < 3 → r.2 (20 + g 168 4) w = q_ns g a b w) := by
  have hB := h.2.1
  have hlen0 := q_len_le hB
  obtain ⟨b0, n0, hbr⟩ := q_best_ex hn
  have hf0 := (q_bestRow_R hB hbr).2.1
  have hf1 := hB.1.1
  have hs1 := hB.2.1.1
  -- the class as far as the track
  obtain ⟨r, hr1, hr2⟩ := s_checkBest h
  cases r with
  | inr q => exact absurd hr2.1 hn
  | inl st2 =>
  obtain ⟨_, hI2, hTC2, hRC2, hcl2⟩ := hr2
  obtain ⟨st4, hr3, hI4, hpC, hcl4⟩ := s_readyTrack hI2 hn
  -- the sounds and the FORMS told
  obtain ⟨a, ha⟩ : ∃ a : Nat → Int, a = fun fr : Nat => st4 154 (fr : Int) := ⟨_, rfl⟩
  obtain ⟨b, hb⟩ : ∃ b : Nat → Int, b = fun fr : Nat => st4 155 (fr : Int) := ⟨_, rfl⟩
  have hat : ∀ fr : Nat, fr < g 168 2 → ∃ k i : Nat, k < (q_many n0).toNat ∧ (fr : Int) = ((q_Tk g (q_dig n0) (q_many n0).toNat k + i : Nat) : Int) ∧ q_Tk g (q_dig n0) (q_many n0).toNat k + i < q_Tk g (q_dig n0) (q_many n0).toNat (k + 1) ∧ a fr = q_tv g (q_dig n0) (q_many n0).toNat k i 4 ∧ b fr = q_tv g (q_dig n0) (q_many n0).toNat k i 5 := fun fr hfr => by
    obtain ⟨k, i9, k1, k2, k3⟩ := q_path_at hB hbr (x := (fr : Int)) (by omega)
    have h4 := hpC b0 n0 hbr k i9 k1 k3 4 (by decide) (by decide)
    have h5 := hpC b0 n0 hbr k i9 k1 k3 5 (by decide) (by decide)
    rw [← k2] at h4 h5
    exact ⟨k, i9, k1, k2, k3, by rw [ha]; exact h4, by rw [hb]; exact h5⟩
  have hab : ∀ fr : Nat, fr < g 168 2 → (0 ≤ a fr ∧ a fr ≤ 5) ∧ 0 ≤ b fr ∧ b fr ≤ 3 := fun fr hfr => by
    obtain ⟨k, i9, k1, k2, k3, k4, k5⟩ := hat fr hfr
    have := q_tv_45 hB hbr k1 k3
    rw [k4, k5]; exact this
  have hG4 : q_GG g st4 := q_GG_iff.mpr ⟨hB, hI4.2.2.1⟩
  have e13 : st4 1 3 = g 168 4 := hI4.2.2.1.2.1.1
  obtain ⟨s3, hr4, hs3f, hs3G⟩ := s_fit_c hG4 hf0 hab (fun fr _ => ⟨by rw [ha], by rw [hb]⟩)
  obtain ⟨gN, hgN⟩ : ∃ gN, gN = q_gk g (q_ns g a b) 3 := ⟨_, rfl⟩
  rw [← hgN] at hs3G
  have hgfr : ∀ x, x ≠ 170 → gN x = g x := by rw [hgN]; exact q_gk_fr.1
  have hsh : q_sh g gN := ⟨fun x _ _ p => hgfr x p, fun j _ _ => by rw [hgfr 168 (by decide)]⟩
  have hnN : q_bw gN ≠ none := fun h9 => hn ((q_si_bw hsh).mpr h9)
  obtain ⟨hBN, hC3⟩ := q_GG_iff.mp hs3G
  have hlenN := q_len_le hBN
  have hCod : q_C gN (q_od s3) := q_C_D hC3 (fun x p q r => q_od_row (by omega))
  obtain ⟨s14, hr5, f1, f2, f3, f4, f5, f6, f7, f8⟩ := s_fresh hCod hBN (by unfold q_od; rw [q_up_row (by decide), q_up_row (by decide), q_up_row (by decide), z_up_at]) (by unfold q_od; rw [q_up_row (by decide), q_up_row (by decide), z_up_at])
  obtain ⟨o, ho, hle⟩ := s_X5_leastWeight hBN f5
  rw [q_bw_least ho] at hle
  obtain ⟨V, hV⟩ : ∃ V, q_bw gN = some V := by
    cases hq : q_bw gN with
    | none => exact absurd hq hnN
    | some V => exact ⟨V, rfl⟩
  rw [hV, e_I_some] at hle
  have hVb : 0 ≤ V ∧ V ≤ 10000000000000 := by
    obtain ⟨i9, hi9, hx9⟩ := e_mins_eq hV
    exact q_wl_bd hBN i9 V hx9
  have hX : J_X11_fit st = some (.inl (V, s14)) := by
    unfold J_X11_fit
    rw [q_xs hr1]
    refine q_of ?_
    simp only [q_g, q_b, q_let, q_ite, q_some, z32, z64, true_or, or_true, true_and, and_true]
    refine q_eq hr3 ?_
    rw [e13]
    refine ⟨by omega, q_eq hr4 (q_eq s_outdate (q_eq hr5 (q_eq hle rfl)))⟩
  obtain ⟨s2, hs2⟩ : ∃ s2 : z_St, s2 = fun y => if y < 168 then s14 y else gN y := ⟨_, rfl⟩
  have elow : ∀ y, y < 168 → s2 y = s14 y := fun y hy => by rw [hs2]; exact if_pos hy
  have ehi : ∀ y, 168 ≤ y → s2 y = gN y := fun y hy => by rw [hs2]; exact if_neg (by omega)
  have est : ∀ y, 138 ≤ y → y < 168 → s2 y = q_od s3 y := fun y p r => by rw [elow y r]; exact f1 y (by unfold q_isT; omega) (by unfold q_isR; omega)
  have hI2' : q_INV gN s2 := by
    refine ⟨⟨fun y p q => by rw [ehi y (by omega)], fun j p q => by rw [ehi 168 (by decide)]⟩, hBN, q_C_D f3 (fun x p r s => elow x (by omega)), Or.inr ⟨by rw [elow 99 (by decide)]; exact f6, q_TC_of f4 hBN (fun x p r => elow x (by unfold q_isT at p; omega))⟩, Or.inr ⟨by rw [elow 134 (by decide)]; exact f7, q_RC_of f5 (fun x p r j _ => by rw [elow x (by omega)]), Or.inl (by rw [elow 134 (by decide)]; exact f8)⟩, Or.inl ?_, Or.inl ?_, ?_⟩
    · rw [est 144 (by decide) (by decide)]; unfold q_od; rw [q_up_row (by decide), z_up_at]
    · rw [est 148 (by decide) (by decide)]; unfold q_od; rw [z_up_at]
    · have e3 : ∀ j, j < 5 → s2 134 j = st4 134 j := fun j hj => by
        rw [elow 134 (by decide), f2 j hj]; unfold q_od
        rw [q_up_row (by decide), q_up_row (by decide), z_up_n (by omega), q_up_row (by decide), hs3f 134 (by omega)]
      rw [e3 3 (by decide), e3 4 (by decide)]
      exact hI4.2.2.2.2.2.2.2
  obtain ⟨g', hg'⟩ := ghost_of (p := s14) hI2' elow
  have hRC' : q_RC g' (z_gh s14) := by
    rcases hg'.2.2.2.2.1 with h9 | ⟨_, h9, _⟩
    · rw [z_gh_low (by decide), f7] at h9; cases h9
    · exact h9
  obtain ⟨o', ho', hle'⟩ := s_X5_leastWeight hg'.2.1 hRC'
  rw [q_bw_least ho', lw_leastWeight (a := s14) (fun y hy => z_gh_low hy), hle] at hle'
  have hbw' : q_bw g' = some V := by
    have e9 := Option.some.inj hle'
    cases hq : q_bw g' with
    | none => rw [hq, e_I_none] at e9; omega
    | some V' => rw [hq, e_I_some] at e9; rw [e9]
  have hst : ∀ y, 1 ≤ y → y ≤ 60 → y ≠ 20 + g 168 4 → s14 y = st y := fun y p q r => by
    rw [f1 y (by unfold q_isT; omega) (by unfold q_isR; omega), q_od_row (by omega), hs3f y r, hcl4.1 y (by omega), hcl2.1 y (by omega)]
  have h89 : s14 89 = st 89 := by
    rw [f1 89 (by unfold q_isT; omega) (by unfold q_isR; omega), q_od_row (by omega), hs3f 89 (by omega), hcl4.2 89 (by decide) (by decide) (by decide), hcl2.2 89 (by decide) (by decide) (by decide)]
  show q_ok (z_xd (J_X11_fit st) fun r => z_let (z_gh r.2) fun st2 => J_L_does_472 r.1 st2) _
  unfold z_xd
  rw [hX]
  refine ⟨_, rfl, ⟨g', hg', hbw'⟩, fun y p q r => ?_, fun j => ?_, hf0, a, b, hab, fun w hw => ?_⟩
  · show z_gh s14 y = st y
    rw [z_gh_low (by omega)]; exact hst y p q r
  · show z_gh s14 89 j = st 89 j
    rw [z_gh_low (by decide), h89]
  · show z_gh s14 (20 + g 168 4) w = _
    rw [z_gh_low (by omega), f1 (20 + g 168 4) (by unfold q_isT; omega) (by unfold q_isR; omega), q_od_row (by omega)]
    have e4 : gN 168 4 = g 168 4 := by rw [hgfr 168 (by decide)]
    have := hC3.2.1.2 (g 168 4) w (by omega) (by omega) (by omega) (by omega)
    rw [this, hgN]
    have hw3 : w = 0 ∨ w = 1 ∨ w = 2 := by omega
    unfold q_gk q_gk q_gk q_gk
    rcases hw3 with rfl | rfl | rfl
    · simp (disch := omega) only [q_up_ne, z_up_at]
    · simp (disch := omega) only [q_up_ne, z_up_at]
    · simp (disch := omega) only [q_up_ne, z_up_at]
