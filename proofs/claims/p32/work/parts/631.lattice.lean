-- THE LATTICE
theorem z_ls_lt2 {q : Int} : ∀ {n : Nat} {t : Int}, 1 ≤ t → t < 2 * q → (z_ls n t q).1 < 2 * q ∧ 0 ≤ (z_ls n t q).2 ∧ (1 ≤ n → t < q → 1 ≤ (z_ls n t q).2) := by
  intro n
  induction n with
  | zero => intro t h1 h; exact ⟨h, Int.le_refl _, fun h9 => by omega⟩
  | succ n ih =>
    intro t h1 h
    unfold z_ls
    by_cases c : t < q
    · rw [if_pos c]
      have i := ih (t := t * 2) (by omega) (by omega)
      exact ⟨i.1, by dsimp only; omega, fun _ _ => by dsimp only; omega⟩
    · rw [if_neg c]
      exact ⟨h, Int.le_refl _, fun _ h9 => absurd h9 c⟩
theorem z_bits_one {p q : Int} (h : 1 ≤ p ∧ p ≤ q ∧ q ≤ 400) : 0 < z_bits p q ∧ z_bits p q ≤ 1065353216 := by
  obtain ⟨r, _, _, h2, h3, h4⟩ := q_bits_loop h q_z0
  have h5 := q_quot (by omega) h3 h4
  by_cases c : p < q
  · obtain ⟨k1, k2, k3⟩ := z_ls_lt2 (q := q) (n := 20) (t := p) h.1 (by omega)
    have k4 := k3 (by decide) c
    have h6 : (z_ls 20 p q).1 * 8388608 / q < 16777216 := by
      rw [Int.ediv_lt_iff_lt_mul (by omega)]; omega
    unfold z_bits
    split <;> omega
  · have e : p = q := by omega
    subst e
    have e2 := z_ls_le (n := 20) (t := p) (q := p) (Int.le_refl _)
    unfold z_bits
    rw [e2]
    dsimp only
    have e3 : p * 8388608 / p = 8388608 := Int.mul_ediv_cancel_left _ (by omega)
    have e4 : p * 8388608 % p = 0 := Int.mul_emod_right _ _
    rw [e3, e4]
    split <;> omega
theorem b_sure {g st : z_St} (h : q_INV g st) {x w : Int} (hx : 0 ≤ x ∧ x ≤ 100000) {b n : Nat} (hb : q_bestRow g b n) (hw : 0 ≤ w ∧ w < g 168 2) : q_ok (J_L_ask 22 x w st) (fun r => q_INV g r.2 ∧ 0 < r.1 ∧ r.1 ≤ 1065353216) := by
  have hB := h.2.1
  have hf1 := hB.1.1
  obtain ⟨k, i, k1, k2, k3⟩ := q_path_at hB hb hw
  refine ask_of (q_mono (a_sure h ⟨by omega, by omega⟩ ⟨by omega, by omega⟩ hx.1 hb k1 k2 k3 hw) ?_)
  rintro r ⟨a1, p, q, a2, a3⟩
  have := z_bits_one a2
  exact ⟨a1, by omega, by omega⟩
set_option maxRecDepth 100000 in
theorem q_dig_last {m : Int} (h : 1 ≤ q_many m) : q_dig m (q_many m - 1) = m % 10 - 1 := by
  unfold q_dig
  rw [show q_many m - 1 - (q_many m - 1) = 0 by omega]
  show m / 1 % 10 - 1 = _
  rw [Int.ediv_one]
theorem q_one_eq {g : z_St} {beam : Int} {w f t : Nat} : q_one g beam w f t = 1 ↔ ∃ x, q_sl g w f t = some x ∧ x ≤ beam := by
  unfold q_one
  cases hq : q_sl g w f t with
  | none => exact ⟨fun h => absurd (show (0 : Int) = 1 from h) (by decide), fun ⟨x, hx, _⟩ => by cases hx⟩
  | some x =>
    dsimp only
    constructor
    · intro h
      by_cases c : x ≤ beam
      · exact ⟨x, rfl, c⟩
      · rw [if_neg c] at h; exact absurd h (by decide)
    · rintro ⟨y, hy, h⟩
      cases hy
      rw [if_pos h]
/-- behind an arc within the beam that ends before the end there is another one -/
theorem q_later {g : z_St} {beam : Int} {w f t : Nat} (hw : w < g 168 18) (hf : f < t) (ht : (t : Int) < g 168 2) (h : q_one g beam w f t = 1) : ∃ v t' : Nat, v < g 168 18 ∧ t < t' ∧ t' ≤ g 168 2 ∧ q_one g beam v t t' = 1 := by
  obtain ⟨sl, h1, h2⟩ := q_one_eq.mp h
  unfold q_sl at h1
  cases hx : q_thr g w f t with
  | none => rw [hx] at h1; cases h1
  | some x =>
    rw [hx] at h1
    have h3 : x - e_I 0 (q_bw g) = sl := Option.some.inj h1
    unfold q_thr at hx
    obtain ⟨u, s, hu, hs, e1⟩ := e_add_some hx
    obtain ⟨o, ho, hu⟩ := e_mins_eq hu
    obtain ⟨x1, y, hx1, hy, e2⟩ := e_add_some hu
    obtain ⟨m, hm, hy⟩ := e_mins_eq hy
    cases m with
    | zero =>
      unfold q_bh at hy
      rw [if_neg (by omega)] at hy; cases hy
    | succ m =>
      rw [q_bh_s] at hy
      obtain ⟨k, hk, hy⟩ := e_mins_eq hy
      obtain ⟨v, hv, hy⟩ := e_mins_eq hy
      unfold q_bhv at hy
      obtain ⟨b, d, hb, hd, e3⟩ := e_add_some hy
      obtain ⟨y1, s1, hy1, hs1, e4⟩ := e_add_some hb
      refine ⟨v, t + 1 + k, by omega, by omega, by omega, ?_⟩
      -- what lies before
      have hbf : ∃ z, q_bf g o w t = some z ∧ z ≤ x1 + s := by
        obtain ⟨z, hz, hz2⟩ := e_mins_le (f := fun c => e_add (q_ld g o w c) (q_tab g w c t)) hf (x1 + s) (by show e_add (q_ld g o w f) (q_tab g w f t) = _; rw [hx1, hs]; rfl)
        exact ⟨z, hz, hz2⟩
      obtain ⟨z, hz, hz2⟩ := hbf
      have hld : ∃ z', q_ld g (o + 1) v t = some z' ∧ z' ≤ z + q_dear g w v := by
        rw [q_ld_succ]
        exact e_mins_le (f := fun v' => e_add (q_bf g o v' t) (some (q_dear g v' v))) (i := w) (n := (g 168 18).toNat) (by omega) (z + q_dear g w v) (by show e_add (q_bf g o w t) _ = _; rw [hz]; rfl)
      obtain ⟨z', hz', hz3⟩ := hld
      have htr : ∃ y2, q_tr g (3 - (o + 1)) v (t + 1 + k) = some y2 ∧ y2 ≤ y1 := e_mins_le (f := fun m => q_bh g m v (t + 1 + k)) (i := m) (n := 3 - (o + 1) + 1) (by omega) y1 hy1
      obtain ⟨y2, hy2, hy3⟩ := htr
      have hm2 : ∃ r, e_mins (fun o => e_add (q_ld g o v t) (q_tr g (3 - o) v (t + 1 + k))) 4 = some r ∧ r ≤ z' + y2 := e_mins_le (f := fun o => e_add (q_ld g o v t) (q_tr g (3 - o) v (t + 1 + k))) (i := o + 1) (n := 4) (by omega) (z' + y2) (by show e_add (q_ld g (o + 1) v t) (q_tr g (3 - (o + 1)) v (t + 1 + k)) = _; rw [hz', hy2]; rfl)
      obtain ⟨r, hr, hr2⟩ := hm2
      have hthr : q_thr g v t (t + 1 + k) = some (r + s1) := by
        unfold q_thr; rw [hr, hs1]; rfl
      have hd2 : q_dear g w v = d := Option.some.inj hd
      refine q_one_eq.mpr ⟨r + s1 - e_I 0 (q_bw g), ?_, by omega⟩
      unfold q_sl; rw [hthr]; rfl
theorem q_P3_mono {g : z_St} {x y : Int} (h : x ≤ y) {i : Nat} (hi : q_P3 g x i = true) : q_P3 g y i = true := by
  rw [q_P3_iff] at hi ⊢
  obtain ⟨a, b, c, d⟩ := hi
  obtain ⟨s, d1, d2⟩ := q_one_eq.mp d
  exact ⟨a, b, c, q_one_eq.mpr ⟨s, d1, by omega⟩⟩
theorem q_P3_at {g : z_St} (hB : q_RB g) {x : Int} {w f t : Nat} (hw : w < g 168 18) (hf : f < t) (ht : t ≤ g 168 2) (h : q_one g x w f t = 1) : ∃ i, i < 1445 ∧ q_P3 g x i = true ∧ i / 85 = f := by
  have hf1 := hB.1.1
  have hw1 := hB.2.2.2.2.1.1
  refine ⟨85 * f + 5 * t + w, by omega, ?_, by omega⟩
  rw [q_P3_iff, show (85 * f + 5 * t + w) % 5 = w by omega, show (85 * f + 5 * t + w) / 5 % 17 = t by omega, show (85 * f + 5 * t + w) / 85 = f by omega]
  exact ⟨by omega, by omega, hf, h⟩
theorem e_cnt_pos {f : Nat → Bool} {i n : Nat} (hi : i < n) (h : f i = true) : e_cnt f i + 1 ≤ e_cnt f n := by
  have := e_cnt_le2 (f := f) (a := i + 1) (b := n) (by omega)
  rw [e_cnt_s h] at this
  exact this
theorem s_lattice {g st : z_St} (h : q_INV g st) {x1 x3 : Int} (h1 : 0 ≤ x1 ∧ x1 ≤ 1500) (h3 : x3 = g 168 2) (hwd : 0 < g 168 18) : q_ok (J_L_lattice x1 x3 st) (q_ans g 1) := by
  have hB := h.2.1
  have hf1 := hB.1.1
  have hw1 := hB.2.2.2.2.1.1
  have nb1 := q_nArcs_bd hB (beam := x1)
  have nb2 := q_nArcs_bd hB (beam := 900000000000000000)
  have zx : z64 x1 := ⟨by omega, by omega⟩
  unfold J_L_lattice
  refine k_ask (a_arcs h zx h1.1) (fun s1 i1 => ?_)
  refine k_ask (a_arcs i1 (by decide) (by decide)) (fun s2 i2 => ?_)
  refine k_b0 i2 (fun v s3 i3 hv => ?_)
  rcases hv with ⟨hn, rfl⟩ | ⟨b, n, hb, rfl, hr, n1, n9⟩
  · have e1 := q_nArcs_none hB hn (beam := x1)
    rw [e1, q_nArcs_none hB hn]
    dsimp only
    rw [q_g, if_pos (by decide), q_g, if_pos rfl, q_g, if_pos rfl]
    refine ⟨by decide, by decide, by decide, ?_⟩
    refine k_does (a_arc_n i3 zx (by decide) h1.1 (by omega)) (fun s4 i4 => ?_)
    dsimp only
    rw [q_g, if_pos rfl]
    refine ⟨by decide, ?_⟩
    refine k_ask (a_keyword i4 (by decide) ⟨by decide, hwd⟩) (fun s5 i5 => ?_)
    rw [q_kw_none hB hn (by exact hwd)]
    dsimp only
    rw [e_I_none, q_g, if_pos rfl]
    refine ⟨by decide, ?_⟩
    unfold J_L_lattice_87
    rw [q_g]
    exact ⟨Or.inr rfl, _, rfl, i5, rfl⟩
  · have hmb := q_many_bd n
    have hr1 := hr.1
    obtain ⟨hrow, hf0, vv, hv⟩ := q_bestRow_R hB hb
    have hP1 := q_nArcs_P hB (beam := x1)
    have hP2 := q_nArcs_P hB (beam := 900000000000000000)
    -- arcs of the best path
    have onp : ∀ (k : Nat) (bm : Int), k < (q_many n).toNat → 0 ≤ bm → ∃ f t : Nat, f < t ∧ t ≤ g 168 2 ∧ q_one g bm (q_dig n k).toNat f t = 1 := fun k bm hk h0 => by
      have hT := (q_Tk_spec hv (k + 1) (by omega)).2
      have hlt := (q_Tk_lt hv hk).1
      exact ⟨_, _, hlt, by omega, q_onpath hB hb hk h0⟩
    have hdg : ∀ k : Nat, k < (q_many n).toNat → 0 ≤ q_dig n k ∧ q_dig n k < g 168 18 := fun k hk => hr.2 k (by omega) (by omega)
    have few : 1 ≤ q_nArcs g x1 := by
      obtain ⟨f, t, k1, k2, k3⟩ := onp 0 x1 (by omega) h1.1
      have := hdg 0 (by omega)
      obtain ⟨i, j1, j2, j3⟩ := q_P3_at hB (by omega) k1 k2 k3
      have := e_cnt_pos j1 j2
      omega
    have all : q_nArcs g x1 ≤ q_nArcs g 900000000000000000 := by
      have := (e_cnt_lt (f := q_P3 g x1) (h := q_P3 g 900000000000000000) (n := 1445) (a := 0) (fun i _ hi => q_P3_mono (by omega) hi)).1
      omega
    -- the last arc
    obtain ⟨i, hi⟩ := q_arc_ex hB (bm := x1) (a := q_nArcs g x1 - 1) (by omega)
    obtain ⟨p1, p2, p3⟩ := hi
    obtain ⟨c1, c2, c3, c4⟩ := q_P3_iff.mp p2
    obtain ⟨sl, c5, c6⟩ := q_one_eq.mp c4
    have hsb := q_sl_bd hB (w := i % 5) (f := i / 85) (t := i / 5 % 17) (by omega) c3 (by omega) sl c5
    have hend : ((i / 5 % 17 : Nat) : Int) = g 168 2 := by
      by_cases e : ((i / 5 % 17 : Nat) : Int) = g 168 2
      · exact e
      · obtain ⟨v, t', d1, d2, d3, d4⟩ := q_later (by omega) c3 (by omega) c4
        obtain ⟨j, j1, j2, j3⟩ := q_P3_at hB d1 d2 d3 d4
        have k1 := e_cnt_pos j1 j2
        have k2 := e_cnt_pos (f := q_P3 g x1) (i := i) (n := j) (by omega) p2
        omega
    have t3 : q_tell g 3 i = sl := by unfold q_tell; rw [if_neg (by decide), if_neg (by decide), if_neg (by decide), c5]; rfl
    have t1 : q_tell g 1 i = ((i / 85 : Nat) : Int) := by unfold q_tell; rw [if_neg (by decide), if_pos rfl]
    have t2 : q_tell g 2 i = g 168 2 := by unfold q_tell; rw [if_neg (by decide), if_neg (by decide), if_pos rfl]; exact hend
    have t0 : q_tell g 0 i = ((i % 5 : Nat) : Int) := by unfold q_tell; rw [if_pos rfl]
    -- the keywords
    have kw1 : ∃ z, q_kw g (i % 5) = some z ∧ z ≤ sl := by
      obtain ⟨z, z1, z2⟩ := e_mins_le (f := fun k => q_sl g (i % 5) (i / 85) (i / 85 + 1 + k)) (i := i / 5 % 17 - (i / 85 + 1)) (n := (g 168 2).toNat - i / 85) (by omega) sl (by
        show q_sl g (i % 5) (i / 85) (i / 85 + 1 + (i / 5 % 17 - (i / 85 + 1))) = _
        rw [show i / 85 + 1 + (i / 5 % 17 - (i / 85 + 1)) = i / 5 % 17 by omega]; exact c5)
      obtain ⟨y, y1, y2⟩ := e_mins_le (f := fun f => e_mins (fun k => q_sl g (i % 5) f (f + 1 + k)) ((g 168 2).toNat - f)) (i := i / 85) (n := (g 168 2).toNat) (by omega) z z1
      exact ⟨y, y1, by omega⟩
    obtain ⟨z, z1, z2⟩ := kw1
    have hdl := q_dig_last (m := n) hr1
    have hdr := hdg ((q_many n).toNat - 1) (by omega)
    rw [show (((q_many n).toNat - 1 : Nat) : Int) = q_many n - 1 by omega, hdl] at hdr
    have kw0 : q_kw g ((n : Int) % 10 - 1).toNat = some 0 := by
      obtain ⟨f, t, k1, k2, k3⟩ := onp ((q_many n).toNat - 1) 0 (by omega) (Int.le_refl _)
      rw [show (((q_many n).toNat - 1 : Nat) : Int) = q_many n - 1 by omega, hdl] at k3
      obtain ⟨s, k4, k5⟩ := q_one_eq.mp k3
      obtain ⟨z, z1, z2⟩ := e_mins_le (f := fun k => q_sl g ((n : Int) % 10 - 1).toNat f (f + 1 + k)) (i := t - (f + 1)) (n := (g 168 2).toNat - f) (by omega) s (by
        show q_sl g ((n : Int) % 10 - 1).toNat f (f + 1 + (t - (f + 1))) = _
        rw [show f + 1 + (t - (f + 1)) = t by omega]; exact k4)
      obtain ⟨y, y1, y2⟩ := e_mins_le (f := fun f => e_mins (fun k => q_sl g ((n : Int) % 10 - 1).toNat f (f + 1 + k)) ((g 168 2).toNat - f)) (i := f) (n := (g 168 2).toNat) (by omega) z z1
      have := q_kw_bd hB (w := ((n : Int) % 10 - 1).toNat) (by omega) y y1
      have e : y = 0 := by omega
      rw [e] at y1
      exact y1
    dsimp only
    rw [q_g, if_neg (by omega), q_g, if_neg (by omega), q_g, if_neg (by omega)]
    refine ⟨⟨by omega, by omega⟩, ⟨⟨by omega, by omega⟩, by decide⟩, ⟨⟨by omega, by omega⟩, by omega, by omega⟩, ?_⟩
    refine k_does (a_arc_n i3 zx ⟨by omega, by omega⟩ h1.1 (by omega)) (fun s4 i4 => ?_)
    dsimp only
    rw [q_g, if_pos rfl]
    refine ⟨by decide, ?_⟩
    unfold J_L_lattice_124
    have zf : z32 (q_nArcs g x1 - 1) := ⟨by omega, by omega⟩
    refine k_does (a_arc i4 zx zf (by decide) h1.1 (by decide) ⟨p1, p2, p3⟩ (by omega)) (fun s5 i5 => ?_)
    refine k_does (a_arc i5 zx zf (by decide) h1.1 (by decide) ⟨p1, p2, p3⟩ (by omega)) (fun s6 i6 => ?_)
    refine k_does (a_arc i6 zx zf (by decide) h1.1 (by decide) ⟨p1, p2, p3⟩ (by omega)) (fun s7 i7 => ?_)
    refine k_does (a_arc i7 zx zf (by decide) h1.1 (by decide) ⟨p1, p2, p3⟩ (by omega)) (fun s8 i8 => ?_)
    rw [t0, t1, t2, t3]
    dsimp only
    rw [q_g, if_neg (by omega), q_g, if_neg (by omega), q_g, if_neg (by omega), q_g, if_pos (by omega), q_g, q_g, if_pos (by omega)]
    refine ⟨⟨⟨by omega, by omega⟩, by decide⟩, ⟨⟨by omega, by omega⟩, zx⟩, ⟨⟨by omega, by omega⟩, by decide⟩, ⟨⟨by omega, by omega⟩, by omega, by omega⟩, ⟨by omega, by omega⟩, ⟨⟨by omega, by omega⟩, by omega, by omega⟩, ?_⟩
    unfold J_L_lattice_230
    refine k_ask (a_keyword i8 ⟨by omega, by omega⟩ (by omega)) (fun s9 i9 => ?_)
    rw [show ((i % 5 : Nat) : Int).toNat = i % 5 by omega, z1, e_I_some]
    dsimp only
    have hzb := q_kw_bd hB (w := i % 5) (by omega) z z1
    have etm : (n : Int).tmod 10 = (n : Int) % 10 := Int.tmod_eq_emod_of_nonneg (by omega)
    rw [q_g, if_neg (by omega), q_g, q_g, etm]
    refine ⟨⟨⟨by omega, by omega⟩, by omega, by omega⟩, ⟨⟨by omega, by omega⟩, by decide, by decide⟩, ⟨by omega, by omega⟩, ?_⟩
    refine k_ask (a_keyword i9 ⟨by omega, by omega⟩ (by omega)) (fun s10 i10 => ?_)
    rw [kw0, e_I_some]
    dsimp only
    rw [q_g, if_pos rfl, iand11]
    refine ⟨by decide, ?_⟩
    unfold J_L_lattice_275
    rw [q_b]
    refine q_mono (b_sure i10 ⟨h1.1, by omega⟩ hb (by omega)) ?_
    rintro ⟨u1, s11⟩ ⟨i11, u2, u3⟩
    dsimp only at i11 u2 u3 ⊢
    rw [iand11, q_g, if_neg (by decide), q_g, if_pos u2, q_g, if_neg (by omega)]
    refine ⟨by decide, ⟨⟨by omega, by omega⟩, by decide⟩, ⟨⟨by omega, by omega⟩, by decide⟩, ?_⟩
    rw [q_b]
    refine q_mono (b_sure i11 (by decide) hb (by omega)) ?_
    rintro ⟨u4, s12⟩ ⟨i12, u5, u6⟩
    dsimp only at i12 u5 u6 ⊢
    rw [q_g, if_pos u5]
    refine ⟨⟨⟨by omega, by omega⟩, by decide⟩, ?_⟩
    unfold J_L_lattice_329
    rw [q_g]
    exact ⟨Or.inr rfl, _, rfl, i12, rfl⟩
