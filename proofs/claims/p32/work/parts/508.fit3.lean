-- fit, both sides
theorem q_tv_45 {g : z_St} (hB : q_RB g) {b n : Nat} (hb : q_bestRow g b n) {k i : Nat} (hk : k < (q_many n).toNat) (hi : q_Tk g (q_dig n) (q_many n).toNat k + i < q_Tk g (q_dig n) (q_many n).toNat (k + 1)) : (0 ≤ q_tv g (q_dig n) (q_many n).toNat k i 4 ∧ q_tv g (q_dig n) (q_many n).toNat k i 4 ≤ 5) ∧ 0 ≤ q_tv g (q_dig n) (q_many n).toNat k i 5 ∧ q_tv g (q_dig n) (q_many n).toNat k i 5 ≤ 3 := by
  have hf1 := hB.1.1
  have hw1 := hB.2.2.2.2.1.1
  obtain ⟨hrow, hf0, v, hv⟩ := q_bestRow_R hB hb
  have hmb := q_many_bd n
  have hdk := hrow.2 k (by omega) (by omega)
  have hw2 := hB.2.2.2.2.1.2.1 (q_dig n k) (by omega) (by omega)
  obtain ⟨hlt1, y, hy⟩ := q_Tk_lt hv hk
  have hTk1 := (q_Tk_spec hv (k + 1) (by omega)).2
  obtain ⟨hc1, u2, hu2, _⟩ := q_chs_some hB (w := q_dig n k) (f := (q_Tk g (q_dig n) (q_many n).toNat k : Nat)) (t := (q_Tk g (q_dig n) (q_many n).toNat (k + 1) : Nat)) (by omega) hy
  have hcb := q_chs_bd (g := g) (w := q_dig n k) (f := (q_Tk g (q_dig n) (q_many n).toNat k : Nat)) (t := (q_Tk g (q_dig n) (q_many n).toNat (k + 1) : Nat))
  have hsa := q_said_of hB.2.2.2.2.1 (w := q_dig n k) (k := q_chs g (q_dig n k) (q_Tk g (q_dig n) (q_many n).toNat k : Nat) (q_Tk g (q_dig n) (q_many n).toNat (k + 1) : Nat)) (by omega)
  have hs2 := hsa.2.1
  rw [q_take_Tl (by omega), show (((q_Tk g (q_dig n) (q_many n).toNat (k + 1) : Nat) : Int) - (q_Tk g (q_dig n) (q_many n).toNat k : Nat)).toNat = q_Tk g (q_dig n) (q_many n).toNat (k + 1) - q_Tk g (q_dig n) (q_many n).toNat k by omega] at hu2
  have hks := (q_ks_spec hu2 i (by omega)).2.2 (by omega)
  have hkb := q_kind_bd hB hsa (p := (q_ks g (2 * q_dig n k + q_chs g (q_dig n k) (q_Tk g (q_dig n) (q_many n).toNat k : Nat) (q_Tk g (q_dig n) (q_many n).toNat (k + 1) : Nat)) (q_Tk g (q_dig n) (q_many n).toNat (k + 1) : Nat) (q_Tk g (q_dig n) (q_many n).toNat (k + 1) - q_Tk g (q_dig n) (q_many n).toNat k) i : Nat)) (by omega)
  have hn9 := hB.2.2.1.1
  rw [q_tv_tw, q_tv_tw]
  unfold q_tw
  constructor
  · (repeat' split) <;> omega
  · (repeat' split) <;> omega
theorem j_5 {g st : z_St} {f : Int → Int} {i : Int} (h : q_INV g st) (_hf : ∀ j, z32 (f j)) : q_ok (JL_5 f i st) (q_out g) := by
  have hB := h.2.1
  have hlen0 := q_len_le hB
  unfold JL_5
  by_cases hn : q_bw g = none
  · refine q_out_0 (j_J (code := 1) (val := 0) (by decide) (fun h9 => absurd h9 (by decide)) (l_n (X := J_X11_fit st) (e := 2) (by decide) ?_ (fun q he hq => by unfold J_L_fit; rw [hq]; simp only [he]; rfl)) (fun s hs => ?_))
    · unfold J_X11_fit
      refine q_xok (q_mono (s_checkBest h) ?_)
      intro r hr
      cases r with
      | inl s => exact absurd hn hr.1
      | inr q => exact ⟨_, rfl, hr.2.2.1, hr.2.1⟩
    · simp only [J_X12_fit, q_g, q_b, q_let, q_ite, q_some, z32, z64, true_or, or_true, true_and, and_true]
      refine q_mono (s_X12_laysPath hs.1 hB) ?_
      rintro ⟨b, st1⟩ ⟨c1, c2, c3, c4⟩
      dsimp only at c1 c2 c3 c4 ⊢
      have hfl := q_bw_flag c3
      have hb : b < 0 := by
        rcases q_bw_first c3 with ⟨h9, _⟩ | ⟨k9, n9, x9, _, _, _, h9, _⟩
        · omega
        · rw [hn] at h9; cases h9
      refine ⟨by omega, fun _ => ?_, fun h9 => absurd hb h9⟩
      simp only [J_X12_fit_15, q_g, q_b, q_let, q_ite, q_some, z32, z64, true_or, or_true, true_and, and_true]
      refine q_eq (s_holds_p (by decide)) ?_
      dsimp only
      exact ⟨by decide, fun h9 => absurd h9 (by decide), fun _ => ⟨q_K_of hs.1 (fun x p => by rw [q_up_row (by omega)]; exact c1 x (by omega)) (fun j p q => by rw [z_up_n (by omega)]; exact c2 j (by omega)), z_up_at, fun h9 => absurd h9 (by decide)⟩⟩
  · obtain ⟨b0, n0, hbr⟩ := q_best_ex hn
    have hf0 := (q_bestRow_R hB hbr).2.1
    have hf1 := hB.1.1
    have hs1 := hB.2.1.1
    -- the class as far as the track
    obtain ⟨r, hr1, hr2⟩ := s_checkBest h
    cases r with
    | inr q => exact absurd hr2.1 hn
    | inl st2 =>
    obtain ⟨_, hI2, hTC2, hRC2, hcl2⟩ := hr2
    obtain ⟨st4, hr3, hI4, hpC, hcl4⟩ := s_readyTrack hI2 hn
    -- the sounds and the FORMS told
    obtain ⟨a, ha⟩ : ∃ a : Nat → Int, a = fun fr : Nat => st4 154 (fr : Int) := ⟨_, rfl⟩
    obtain ⟨b, hb⟩ : ∃ b : Nat → Int, b = fun fr : Nat => st4 155 (fr : Int) := ⟨_, rfl⟩
    have hat : ∀ fr : Nat, fr < g 168 2 → ∃ k i : Nat, k < (q_many n0).toNat ∧ (fr : Int) = ((q_Tk g (q_dig n0) (q_many n0).toNat k + i : Nat) : Int) ∧ q_Tk g (q_dig n0) (q_many n0).toNat k + i < q_Tk g (q_dig n0) (q_many n0).toNat (k + 1) ∧ a fr = q_tv g (q_dig n0) (q_many n0).toNat k i 4 ∧ b fr = q_tv g (q_dig n0) (q_many n0).toNat k i 5 := fun fr hfr => by
      obtain ⟨k, i9, k1, k2, k3⟩ := q_path_at hB hbr (x := (fr : Int)) (by omega)
      have h4 := hpC b0 n0 hbr k i9 k1 k3 4 (by decide) (by decide)
      have h5 := hpC b0 n0 hbr k i9 k1 k3 5 (by decide) (by decide)
      rw [← k2] at h4 h5
      exact ⟨k, i9, k1, k2, k3, by rw [ha]; exact h4, by rw [hb]; exact h5⟩
    have hab : ∀ fr : Nat, fr < g 168 2 → (0 ≤ a fr ∧ a fr ≤ 5) ∧ 0 ≤ b fr ∧ b fr ≤ 3 := fun fr hfr => by
      obtain ⟨k, i9, k1, k2, k3, k4, k5⟩ := hat fr hfr
      have := q_tv_45 hB hbr k1 k3
      rw [k4, k5]; exact this
    have hG4 : q_GG g st4 := q_GG_iff.mpr ⟨hB, hI4.2.2.1⟩
    have e13 : st4 1 3 = g 168 4 := hI4.2.2.1.2.1.1
    obtain ⟨s3, hr4, hs3f, hs3G⟩ := s_fit_c hG4 hf0 hab (fun fr _ => ⟨by rw [ha], by rw [hb]⟩)
    obtain ⟨gN, hgN⟩ : ∃ gN, gN = q_gk g (q_ns g a b) 3 := ⟨_, rfl⟩
    rw [← hgN] at hs3G
    have hgfr : ∀ x, x ≠ 170 → gN x = g x := by rw [hgN]; exact q_gk_fr.1
    have hsh : q_sh g gN := ⟨fun x _ _ p => hgfr x p, fun j _ _ => by rw [hgfr 168 (by decide)]⟩
    have hnN : q_bw gN ≠ none := fun h9 => hn ((q_si_bw hsh).mpr h9)
    obtain ⟨hBN, hC3⟩ := q_GG_iff.mp hs3G
    have hlenN := q_len_le hBN
    have hCod : q_C gN (q_od s3) := q_C_D hC3 (fun x p q r => q_od_row (by omega))
    obtain ⟨s14, hr5, f1, f2, f3, f4, f5, f6, f7, f8⟩ := s_fresh hCod hBN (by unfold q_od; rw [q_up_row (by decide), q_up_row (by decide), q_up_row (by decide), z_up_at]) (by unfold q_od; rw [q_up_row (by decide), q_up_row (by decide), z_up_at])
    obtain ⟨o, ho, hle⟩ := s_X5_leastWeight hBN f5
    rw [q_bw_least ho] at hle
    obtain ⟨V, hV⟩ : ∃ V, q_bw gN = some V := by
      cases hq : q_bw gN with
      | none => exact absurd hq hnN
      | some V => exact ⟨V, rfl⟩
    rw [hV, e_I_some] at hle
    have hVb : 0 ≤ V ∧ V ≤ 10000000000000 := by
      obtain ⟨i9, hi9, hx9⟩ := e_mins_eq hV
      exact q_wl_bd hBN i9 V hx9
    have hL : J_L_fit st = some (0, z_up s14 199 0 V) := by
      have : J_X11_fit st = some (.inl (V, s14)) := by
        unfold J_X11_fit
        rw [q_xs hr1]
        refine q_of ?_
        simp only [q_g, q_b, q_let, q_ite, q_some, z32, z64, true_or, or_true, true_and, and_true]
        refine q_eq hr3 ?_
        rw [e13]
        refine ⟨by omega, q_eq hr4 (q_eq s_outdate (q_eq hr5 (q_eq hle rfl)))⟩
      unfold J_L_fit
      rw [this]
    -- the reference
    have flow : ∀ x, 168 ≤ x → x ≤ 198 → s14 x = st4 x := fun x p q => by
      rw [f1 x (by unfold q_isT; omega) (by unfold q_isR; omega), q_od_row (by omega), hs3f x (by omega)]
    obtain ⟨B0, hB0⟩ : ∃ B0, B0 = z_up s14 199 0 V := ⟨_, rfl⟩
    have hSB : q_same g B0 := ⟨fun x p q => by rw [hB0, q_up_row (by omega), flow x (by omega) (by omega)]; exact hI4.1.1 x p q, fun j p q => by rw [hB0, q_up_row (by decide), flow 168 (by decide) (by decide)]; exact hI4.1.2 j p q⟩
    have hRR : q_ok (J_X12_fit B0) (fun r => r.1 = V ∧ (∀ x, x < 168 ∨ x = 199 → r.2 x = B0 x) ∧ q_same gN r.2 ∧ r.2 168 0 = 0) := by
      simp only [J_X12_fit, q_g, q_b, q_let, q_ite, q_some, z32, z64, true_or, or_true, true_and, and_true]
      refine q_mono (s_X12_laysPath hSB hB) ?_
      rintro ⟨bb, t1⟩ ⟨c1, c2, c3, c4⟩
      dsimp only at c1 c2 c3 c4 ⊢
      have hS1 : q_same g t1 := ⟨fun x p q => (c1 x (by omega)).trans (hSB.1 x p q), fun j p q => (c2 j (by omega)).trans (hSB.2 j p q)⟩
      have hfl := q_bw_flag c3
      refine ⟨by omega, fun hb9 => absurd (hfl.1 hb9).2 hn, fun hb9 => ?_⟩
      simp only [J_X12_fit_15, q_g, q_b, q_let, q_ite, q_some, z32, z64, true_or, or_true, true_and, and_true]
      refine q_eq s_holds_0 ?_
      dsimp only
      refine ⟨by decide, fun _ => ?_, fun h9 => by first | exact absurd rfl h9 | exact absurd trivial h9⟩
      have ht1 : ∀ fr : Nat, fr < g 168 2 → z_up t1 168 0 0 191 (6 * (fr : Int) + 4) = a fr ∧ z_up t1 168 0 0 191 (6 * (fr : Int) + 5) = b fr := fun fr hfr => by
        obtain ⟨k, i9, k1, k2, k3, k4, k5⟩ := hat fr hfr
        have h4 := c4 b0 n0 hbr k i9 k1 k3 4 (by decide) (by decide)
        have h5 := c4 b0 n0 hbr k i9 k1 k3 5 (by decide) (by decide)
        rw [← k2] at h4 h5
        rw [q_up_row (by decide), k4, k5]
        exact ⟨h4, h5⟩
      refine q_mono (s_fit_r (q_up_0 hS1) hB hf0 hab ht1) ?_
      rintro t2 ⟨d1, d2⟩
      have hS2 : q_same g t2 := q_same_of (q_up_0 hS1) (fun x p q => d1 x (by omega))
      refine q_mono (s_fit_s hS2 hB hf0 hab d2) ?_
      rintro t3 ⟨e1, e2⟩
      rw [← hgN] at e2
      have hS3 : q_same gN t3 := ⟨fun x p q => by
        by_cases e : x = 170
        · subst e; exact e2
        · rw [e1 x e, hgfr x e]; exact hS2.1 x p q, fun j p q => by rw [e1 168 (by decide), hgfr 168 (by decide)]; exact hS2.2 j p q⟩
      refine q_mono (s_X12_laysRows hS3 hBN) ?_
      rintro ⟨b9, t4⟩ ⟨g1, g2, g3, g4, g5⟩
      dsimp only at g1 g2 g3 g4 g5 ⊢
      have hb199 : b9 = b9 := rfl
      rcases q_bw_first g5 with ⟨_, h9, _⟩ | ⟨k9, n9, y9, rfl, k1, k2, k3, _⟩
      · exact absurd h9 hnN
      have hk9 : k9 < q_len gN := (List.getElem?_eq_some_iff.mp k1).1
      rw [hV] at k3
      cases k3
      have hk1 : (q_rl (gN 168 18).toNat 5556)[k9]? = some n9 := k1
      refine ⟨by omega, ?_, fun x hx => ?_, ⟨fun x p q => (g1 x (by omega)).trans (hS3.1 x p q), fun j p q => (g2 j (by omega)).trans (hS3.2 j p q)⟩, ?_⟩
      · rw [(g4.2 k9 n9 hk1).2, ← q_wl_at k1, k2, e_I_some]
      · rw [g1 x (by omega), e1 x (by omega), d1 x (by omega), q_up_row (by omega), c1 x (by omega)]
      · rw [g2 0 (by decide), e1 168 (by decide), d1 168 (by decide), z_up_at]
    obtain ⟨q, hq1, hq2, hq3, hq4, hq5⟩ := hRR
    rw [hB0] at hq1
    have elow : ∀ x, x < 168 → q.2 x = s14 x := fun x hx => by rw [hq3 x (Or.inl hx), hB0, q_up_row (by omega)]
    have v199 : q.2 199 0 = V := by rw [hq3 199 (Or.inr rfl), hB0, z_up_at]
    have est : ∀ x, 138 ≤ x → x < 168 → q.2 x = q_od s3 x := fun x p r => by rw [elow x r]; exact f1 x (by unfold q_isT; omega) (by unfold q_isR; omega)
    have hout : q_out g q.2 := by
      refine ⟨gN, ⟨hq4, hBN, q_C_D f3 (fun x p r s => elow x (by omega)), Or.inr ⟨by rw [elow 99 (by decide)]; exact f6, q_TC_of f4 hBN (fun x p r => elow x (by unfold q_isT at p; omega))⟩, Or.inr ⟨by rw [elow 134 (by decide)]; exact f7, q_RC_of f5 (fun x p r j _ => by rw [elow x (by omega)]), Or.inl (by rw [elow 134 (by decide)]; exact f8)⟩, Or.inl ?_, Or.inl ?_, ?_⟩, ?_⟩
      · rw [est 144 (by decide) (by decide)]; unfold q_od; rw [q_up_row (by decide), z_up_at]
      · rw [est 148 (by decide) (by decide)]; unfold q_od; rw [z_up_at]
      · have e3 : ∀ j, j < 5 → q.2 134 j = st4 134 j := fun j hj => by
          rw [elow 134 (by decide), f2 j hj]; unfold q_od
          rw [q_up_row (by decide), q_up_row (by decide), z_up_n (by omega), q_up_row (by decide), hs3f 134 (by omega)]
        rw [e3 3 (by decide), e3 4 (by decide)]
        exact hI4.2.2.2.2.2.2.2
      · rw [hgfr 168 (by decide)]; omega
    rw [q_b]
    refine q_eq hL ?_
    rw [q_b]
    refine q_eq hq1 ?_
    rw [q_b]
    refine q_eq (v := 0) (by show some (q.2 168 0) = _; rw [hq5]) ?_
    rw [q_g, q_g, q_some, v199, hq2]
    dsimp only
    exact ⟨⟨⟨by decide, by decide⟩, rfl⟩, fun _ => ⟨⟨by omega, by omega⟩, ⟨by omega, by omega⟩, ⟨by omega, by omega⟩, rfl⟩, hout⟩
