-- fit, the call
theorem q_GG_shift {g c : z_St} (hG : q_GG g c) {sp w V : Int} (hs : 0 ≤ sp ∧ sp ≤ 3) (hw : 0 ≤ w ∧ w ≤ 2) (hV : -30000 ≤ V ∧ V ≤ 30000) : q_GG (z_up g 170 (3 * sp + w) V) (z_up c (20 + sp) w V) := by
  refine ⟨(k_1 hG.1 (by (first | (simp (disch := omega) only [q_up_row, q_od_row, z_up_at, q_up_ne]; done) | rfl)) (by (first | (simp (disch := omega) only [q_up_row, q_od_row, z_up_at, q_up_ne]; done) | rfl)) (by (first | (simp (disch := omega) only [q_up_row, q_od_row, z_up_at, q_up_ne]; done) | rfl)) (fun x p q => by (first | (simp (disch := omega) only [q_up_row, q_od_row, z_up_at, q_up_ne]; done) | rfl))), ?_, (k_3 hG.2.2.1 (by (first | (simp (disch := omega) only [q_up_row, q_od_row, z_up_at, q_up_ne]; done) | rfl)) (fun x p q => by (first | (simp (disch := omega) only [q_up_row, q_od_row, z_up_at, q_up_ne]; done) | rfl)) (by (first | (simp (disch := omega) only [q_up_row, q_od_row, z_up_at, q_up_ne]; done) | rfl)) (fun x p q => by (first | (simp (disch := omega) only [q_up_row, q_od_row, z_up_at, q_up_ne]; done) | rfl))), (k_4 hG.2.2.2.1 (by (first | (simp (disch := omega) only [q_up_row, q_od_row, z_up_at, q_up_ne]; done) | rfl)) (by (first | (simp (disch := omega) only [q_up_row, q_od_row, z_up_at, q_up_ne]; done) | rfl)) (by (first | (simp (disch := omega) only [q_up_row, q_od_row, z_up_at, q_up_ne]; done) | rfl)) (by (first | (simp (disch := omega) only [q_up_row, q_od_row, z_up_at, q_up_ne]; done) | rfl))), (k_5 hG.2.2.2.2.1 (by (first | (simp (disch := omega) only [q_up_row, q_od_row, z_up_at, q_up_ne]; done) | rfl)) (Int.le_of_eq (by (first | (simp (disch := omega) only [q_up_row, q_od_row, z_up_at, q_up_ne]; done) | rfl))) (fun x p q => by (first | (simp (disch := omega) only [q_up_row, q_od_row, z_up_at, q_up_ne]; done) | rfl)) (by (first | (simp (disch := omega) only [q_up_row, q_od_row, z_up_at, q_up_ne]; done) | rfl)) (fun x p => by (first | (simp (disch := omega) only [q_up_row, q_od_row, z_up_at, q_up_ne]; done) | rfl))), (k_6 hG.2.2.2.2.2 ⟨(by (first | (simp (disch := omega) only [q_up_row, q_od_row, z_up_at, q_up_ne]; done) | rfl)), (by (first | (simp (disch := omega) only [q_up_row, q_od_row, z_up_at, q_up_ne]; done) | rfl)), (by (first | (simp (disch := omega) only [q_up_row, q_od_row, z_up_at, q_up_ne]; done) | rfl))⟩ (by (first | (simp (disch := omega) only [q_up_row, q_od_row, z_up_at, q_up_ne]; done) | rfl)) ⟨(by (first | (simp (disch := omega) only [q_up_row, q_od_row, z_up_at, q_up_ne]; done) | rfl)), (by (first | (simp (disch := omega) only [q_up_row, q_od_row, z_up_at, q_up_ne]; done) | rfl)), (by (first | (simp (disch := omega) only [q_up_row, q_od_row, z_up_at, q_up_ne]; done) | rfl))⟩ (fun x p q => by (first | (simp (disch := omega) only [q_up_row, q_od_row, z_up_at, q_up_ne]; done) | rfl)))⟩
  obtain ⟨⟨r1, r2⟩, k1, k2⟩ := hG.2.1
  refine ⟨⟨?_, fun k a b => ?_⟩, ?_, fun k y a b c d => ?_⟩
  · simp (disch := omega) only [q_up_row, q_od_row, z_up_at, q_up_ne]; exact r1
  · have := r2 k a b
    rw [q_up_at]
    split <;> omega
  · simp (disch := omega) only [q_up_row, q_od_row, z_up_at, q_up_ne]; exact k1
  · have := k2 k y a b c d
    rw [q_up_at]
    by_cases e : k = sp
    · subst e
      rw [q_up_at]
      by_cases e2 : y = w
      · rw [if_pos e2, if_pos (by omega)]
      · rw [if_neg e2, if_neg (by omega)]; exact this
    · rw [if_neg (by omega)]
      simp (disch := omega) only [q_up_row, q_od_row, z_up_at, q_up_ne]; exact this
def q_clip (v : Int) : Int := if v < -30000 then -30000 else if 30000 < v then 30000 else v
theorem q_clip_bd {v : Int} : -30000 ≤ q_clip v ∧ q_clip v ≤ 30000 := by unfold q_clip; (repeat' split) <;> omega
/-- the new SHIFT -/
def q_ns (g : z_St) (a b : Nat → Int) (w : Nat) : Int := q_clip (g 170 (3 * g 168 4 + w) + q_sumA g a b w / g 168 2)
def q_gk (g : z_St) (v : Nat → Int) : Nat → z_St
  | 0 => g
  | k + 1 => z_up (q_gk g v k) 170 (3 * g 168 4 + k) (v k)
theorem q_gk_fr {g : z_St} {v : Nat → Int} {k : Nat} : (∀ x, x ≠ 170 → q_gk g v k x = g x) ∧ ∀ j, 3 * g 168 4 + k ≤ j → q_gk g v k 170 j = g 170 j := by
  induction k with
  | zero => exact ⟨fun _ _ => rfl, fun _ _ => rfl⟩
  | succ k ih =>
    refine ⟨fun x hx => ?_, fun j hj => ?_⟩
    · show z_up (q_gk g v k) 170 _ _ x = _
      rw [q_up_row hx]; exact ih.1 x hx
    · show z_up (q_gk g v k) 170 _ _ 170 j = _
      rw [q_up_ne (by omega)]; exact ih.2 j (by omega)
theorem q_sumA_gk {g : z_St} {v : Nat → Int} {k : Nat} {a b : Nat → Int} : q_sumA (q_gk g v k) a b k = q_sumA g a b k := by
  have hfr := q_gk_fr (g := g) (v := v) (k := k)
  have el : ∀ s f w, q_lies (q_gk g v k) s f w = q_lies g s f w := fun s f w => by unfold q_lies; rw [hfr.1 171 (by decide), hfr.1 176 (by decide)]
  unfold q_sumA
  rw [hfr.1 168 (by decide)]
  refine e_sum_congr fun fr _ => ?_
  rw [el, hfr.1 169 (by decide), hfr.2 _ (by omega)]
theorem q_sumA_q {g : z_St} (hB : q_RB g) {a b : Nat → Int} {w : Int} (hw : 0 ≤ w ∧ w ≤ 2) (hf0 : 0 < g 168 2) (hab : ∀ fr : Nat, fr < g 168 2 → (0 ≤ a fr ∧ a fr ≤ 5) ∧ 0 ≤ b fr ∧ b fr ≤ 3) : -1488000 ≤ q_sumA g a b w / g 168 2 ∧ q_sumA g a b w / g 168 2 ≤ 1488000 := by
  have h := q_sumA_bd hB hw hab
  constructor
  · rw [Int.le_ediv_iff_mul_le hf0]
    have : (1488000 : Int) * 1 ≤ 1488000 * g 168 2 := Int.mul_le_mul_of_nonneg_left (by omega) (by decide)
    omega
  · have : q_sumA g a b w / g 168 2 < 1488001 := by
      rw [Int.ediv_lt_iff_lt_mul hf0]
      have : (1488001 : Int) * 1 ≤ 1488001 * g 168 2 := Int.mul_le_mul_of_nonneg_left (by omega) (by decide)
      omega
    omega
theorem s_fit_c {g st : z_St} (hG : q_GG g st) (hf0 : 0 < g 168 2) {a b : Nat → Int} (hab : ∀ fr : Nat, fr < g 168 2 → (0 ≤ a fr ∧ a fr ≤ 5) ∧ 0 ≤ b fr ∧ b fr ≤ 3) (ht : ∀ fr : Nat, fr < g 168 2 → st 154 fr = a fr ∧ st 155 fr = b fr) : q_ok (z_iter z_F (fun q9 : (Int × z_St) => J_X11_fit_b26 (20 + g 168 4) q9.1 q9.2) (0, st)) (fun s => (∀ x, x ≠ 20 + g 168 4 → s x = st x) ∧ q_GG (q_gk g (q_ns g a b) 3) s) := by
  obtain ⟨hB, hC⟩ := q_GG_iff.mp hG
  have hs1 := hB.2.1.1
  refine q_for0 (fun k s => (∀ x, x ≠ 20 + g 168 4 → s x = st x) ∧ q_GG (q_gk g (q_ns g a b) k) s) 3 (by decide) ⟨fun _ _ => rfl, hG⟩ ?_ ?_
  · rintro k s hk ⟨i1, i2⟩
    obtain ⟨hBk, hCk⟩ := q_GG_iff.mp i2
    have hfr := q_gk_fr (g := g) (v := q_ns g a b) (k := k)
    have e2 : q_gk g (q_ns g a b) k 168 2 = g 168 2 := by rw [hfr.1 168 (by decide)]
    have e4 : q_gk g (q_ns g a b) k 168 4 = g 168 4 := by rw [hfr.1 168 (by decide)]
    have hm := s_X11_meanAbove hCk hBk (a := a) (b := b) (w := (k : Int)) (by omega) (by rw [e2]; exact hf0) (by rw [e2]; exact hab) (by rw [e2]; exact fun fr h9 => by rw [i1 154 (by omega), i1 155 (by omega)]; exact ht fr h9)
    rw [q_sumA_gk, e2] at hm
    have hread : s (20 + g 168 4) k = g 170 (3 * g 168 4 + k) := by
      rw [hCk.2.1.2 _ _ hs1.1 (by omega) (by omega) (by omega), hfr.2 _ (by omega)]
    have hrb := hB.2.1.2 (3 * g 168 4 + k) (by omega) (by omega)
    have hq := q_sumA_q hB (a := a) (b := b) (w := (k : Int)) (by omega) hf0 hab
    have hv : max (-30000) (min 30000 (g 170 (3 * g 168 4 + (k : Int)) + q_sumA g a b k / g 168 2)) = q_ns g a b k := by
      unfold q_ns q_clip
      (repeat' split) <;> omega
    simp only [J_X11_fit_b26, q_g, q_b, q_let, q_ite, q_some, z32, z64, true_or, or_true, true_and, and_true]
    rw [hread]
    refine ⟨by omega, fun _ => ⟨by omega, by omega, q_eq hm ⟨by omega, by omega, by omega, _, rfl, fun x hx => (q_up_row hx).trans (i1 x hx), ?_⟩⟩, fun h9 => by omega⟩
    rw [hv]
    exact q_GG_shift i2 hs1 (by omega) q_clip_bd
  · rintro s ⟨i1, i2⟩
    simp only [J_X11_fit_b26, q_g, q_b, q_let, q_ite, q_some, z32, z64, true_or, or_true, true_and, and_true]
    exact ⟨by decide, fun h9 => by omega, fun _ => ⟨_, rfl, i1, i2⟩⟩
theorem s_fit_r {g st : z_St} (hS : q_same g st) (hB : q_RB g) (hf0 : 0 < g 168 2) {a b : Nat → Int} (hab : ∀ fr : Nat, fr < g 168 2 → (0 ≤ a fr ∧ a fr ≤ 5) ∧ 0 ≤ b fr ∧ b fr ≤ 3) (ht : ∀ fr : Nat, fr < g 168 2 → st 191 (6 * (fr : Int) + 4) = a fr ∧ st 191 (6 * (fr : Int) + 5) = b fr) : q_ok (z_iter z_F (fun q9 : (Int × z_St) => J_X12_fit_b27 q9.1 q9.2) (0, st)) (fun s => (∀ x, x ≠ 185 → s x = st x) ∧ ∀ w : Nat, w < 3 → s 185 w = g 170 (3 * g 168 4 + w) + q_sumA g a b w / g 168 2) := by
  have hf1 := hB.1.1
  have hs1 := hB.2.1.1
  refine q_for0 (fun k s => (∀ x, x ≠ 185 → s x = st x) ∧ ∀ w : Nat, w < k → s 185 w = g 170 (3 * g 168 4 + w) + q_sumA g a b w / g 168 2) 3 (by decide) ⟨fun _ _ => rfl, fun w h9 => by omega⟩ ?_ ?_
  · rintro k s hk ⟨i1, i2⟩
    have hSs : q_same g s := q_same_of hS (fun x p q => i1 x (by omega))
    have e2 := hSs.2 2 (by decide) (by decide)
    have e4 := hSs.2 4 (by decide) (by decide)
    have e170 := hSs.1 170 (by decide) (by decide)
    have hsum := s_X12_fit37 hSs hB (a := a) (b := b) (w := (k : Int)) (by omega) hab (fun fr h9 => by rw [i1 191 (by decide)]; exact ht fr h9)
    have hbd := q_sumA_bd hB (a := a) (b := b) (w := (k : Int)) (by omega) hab
    have hrb := hB.2.1.2 (3 * g 168 4 + k) (by omega) (by omega)
    simp only [J_X12_fit_b27, q_g, q_b, q_let, q_ite, q_some, z32, z64, true_or, or_true, true_and, and_true]
    rw [e2, e4, e170]
    refine ⟨by omega, fun _ => q_eq hsum ⟨by omega, by omega, q_eq (s_X12_down (by omega) (by omega)) ⟨by omega, _, rfl, fun x hx => (q_up_row hx).trans (i1 x hx), fun w hw => ?_⟩⟩, fun h9 => by omega⟩
    rw [q_up_at]
    by_cases e : w = k
    · subst e; rw [if_pos rfl]
    · rw [if_neg (by omega)]; exact i2 w (by omega)
  · rintro s ⟨i1, i2⟩
    simp only [J_X12_fit_b27, q_g, q_b, q_let, q_ite, q_some, z32, z64, true_or, or_true, true_and, and_true]
    exact ⟨by decide, fun h9 => by omega, fun _ => ⟨_, rfl, i1, i2⟩⟩
theorem s_fit_s {g st : z_St} (hS : q_same g st) (hB : q_RB g) (hf0 : 0 < g 168 2) {a b : Nat → Int} (hab : ∀ fr : Nat, fr < g 168 2 → (0 ≤ a fr ∧ a fr ≤ 5) ∧ 0 ≤ b fr ∧ b fr ≤ 3) (hv : ∀ w : Nat, w < 3 → st 185 w = g 170 (3 * g 168 4 + w) + q_sumA g a b w / g 168 2) : q_ok (z_iter z_F (fun q9 : (Int × z_St) => J_X12_fit_b131 q9.1 q9.2) (0, st)) (fun s => (∀ x, x ≠ 170 → s x = st x) ∧ s 170 = q_gk g (q_ns g a b) 3 170) := by
  have hs1 := hB.2.1.1
  refine q_for0 (fun k s => (∀ x, x ≠ 170 → s x = st x) ∧ s 170 = q_gk g (q_ns g a b) k 170) 3 (by decide) ⟨fun _ _ => rfl, hS.1 170 (by decide) (by decide)⟩ ?_ ?_
  · rintro k s hk ⟨i1, i2⟩
    have e4 : s 168 4 = g 168 4 := by rw [i1 168 (by decide)]; exact hS.2 4 (by decide) (by decide)
    have e185 : s 185 k = g 170 (3 * g 168 4 + k) + q_sumA g a b k / g 168 2 := by rw [i1 185 (by decide)]; exact hv k hk
    have hq := q_sumA_q hB (a := a) (b := b) (w := (k : Int)) (by omega) hf0 hab
    have hrb := hB.2.1.2 (3 * g 168 4 + k) (by omega) (by omega)
    have w184 : ∀ V : Int, V = q_ns g a b k → q_ok (J_X12_fit_184 k V (3 * g 168 4 + k) s) (fun r => ∃ s', r = .inl ((k : Int) + 1, s') ∧ (∀ x, x ≠ 170 → s' x = st x) ∧ s' 170 = q_gk g (q_ns g a b) (k + 1) 170) := fun V hV => by
      simp only [J_X12_fit_184, q_g, q_b, q_let, q_ite, q_some, z32, z64, true_or, or_true, true_and, and_true]
      refine ⟨by omega, _, rfl, fun x hx => (q_up_row hx).trans (i1 x hx), ?_⟩
      funext j
      show _ = z_up (q_gk g (q_ns g a b) k) 170 (3 * g 168 4 + k) (q_ns g a b k) 170 j
      rw [q_up_at, q_up_at, i2, hV]
    simp only [J_X12_fit_b131, q_g, q_b, q_let, q_ite, q_some, z32, z64, true_or, or_true, true_and, and_true]
    rw [e185, e4]
    unfold q_ns q_clip at w184
    refine ⟨by omega, fun _ => ⟨by omega, by omega, fun h1 => w184 _ (by rw [if_pos h1]), fun h1 => ⟨by omega, fun h2 => w184 _ (by rw [if_neg h1, if_pos h2]), fun h2 => w184 _ (by rw [if_neg h1, if_neg h2])⟩⟩, fun h9 => by omega⟩
  · rintro s ⟨i1, i2⟩
    simp only [J_X12_fit_b131, q_g, q_b, q_let, q_ite, q_some, z32, z64, true_or, or_true, true_and, and_true]
    exact ⟨by decide, fun h9 => by omega, fun _ => ⟨_, rfl, i1, i2⟩⟩
theorem q_tbl_or' {st0 : z_St} : J_X11_readyRows st0 = z_b (J_X11_readyTable st0) J_X11_readyRows_29 := by
  unfold J_X11_readyRows J_X11_readyTable J_X11_readyTable_29 z_g z_b
  split
  · split
    · cases J_X0_fill st0 <;> rfl
    · rfl
  · rfl
theorem s_fresh {g st0 : z_St} (hC : q_C g st0) (hB : q_RB g) (h4 : st0 99 4 = 0) (h9 : st0 134 9 = 0) : q_ok (J_X11_readyRows st0) (fun st => (∀ x, ¬ q_isT x → ¬ q_isR x → st x = st0 x) ∧ (∀ k, k < 5 → st 134 k = st0 134 k) ∧ q_C g st ∧ q_TC g st ∧ q_RC g st ∧ st 99 4 = 1 ∧ st 134 9 = 1 ∧ st 134 10 = 0) := by
  rw [q_tbl_or']
  simp only [J_X11_readyTable, J_X11_readyTable_29, q_g, q_b, q_let, q_ite, q_some, z32, z64, true_or, or_true, true_and, and_true]
  rw [h4]
  refine ⟨by decide, fun _ => ?_, fun h8 => by first | exact absurd rfl h8 | exact absurd trivial h8⟩
  refine q_mono (s_X0_fill hC hB) ?_
  rintro st1 ⟨a1, a2, a3⟩
  have e : ∀ x, 134 ≤ x → st1 x = st0 x := fun x hx => a1 x (by unfold q_isT; omega)
  have hC1 := q_C_D hC (c' := st1) (fun x p q r => a1 x (by unfold q_isT; omega))
  simp only [J_X11_readyRows_29, J_X11_readyRows_64, q_g, q_b, q_let, q_ite, q_some, z32, z64, true_or, or_true, true_and, and_true]
  rw [e 134 (by decide), h9]
  refine ⟨by decide, fun _ => ?_, fun h8 => by first | exact absurd rfl h8 | exact absurd trivial h8⟩
  rw [hC1.2.2.2.2.1.1, hC1.1.1]
  refine q_mono (s_X5_fill hB a2) ?_
  rintro st2 ⟨b1, b2, b3, b4, b5⟩
  have e2 : ∀ x, (x < 134 ∨ 137 < x) → st2 x = st1 x := fun x hx => b1 x (by unfold q_isR; omega)
  exact ⟨fun x p q => (b1 x q).trans (a1 x p), fun k hk => by rw [b2 k hk, e 134 (by decide)], q_C_D hC1 (fun x p q r => e2 x (by omega)), q_TC_of a2 hB (fun x a b => by unfold q_isT at a; exact e2 x (by omega)), b3, by rw [e2 99 (by decide)]; exact a3, b4, b5⟩
