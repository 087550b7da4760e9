-- fit: what is finite doesn't depend on what it costs
def q_si (a b : Option Int) : Prop := a = none ↔ b = none
theorem q_si_refl {a : Option Int} : q_si a a := Iff.rfl
theorem q_si_add {a b c d : Option Int} (h : q_si a b) (k : q_si c d) : q_si (e_add a c) (e_add b d) := by
  unfold q_si at *
  cases a with
  | none => rw [h.mp rfl]; exact Iff.rfl
  | some x => cases b with
    | none => cases h.mpr rfl
    | some y => cases c with
      | none => rw [k.mp rfl]; exact ⟨fun _ => rfl, fun _ => rfl⟩
      | some z => cases d with
        | none => cases k.mpr rfl
        | some w => exact ⟨fun h => (nomatch h), fun h => (nomatch h)⟩
theorem q_si_min {a b c d : Option Int} (h : q_si a b) (k : q_si c d) : q_si (e_min a c) (e_min b d) := by
  unfold q_si at *
  cases a with
  | none =>
    rw [h.mp rfl]
    have e : ∀ o : Option Int, e_min none o = o := fun o => by rw [e_min_comm, e_min_none]
    rw [e, e]; exact k
  | some x => cases b with
    | none => cases h.mpr rfl
    | some y => cases c with
      | none => rw [k.mp rfl]; exact ⟨fun h => (nomatch h), fun h => (nomatch h)⟩
      | some z => cases d with
        | none => cases k.mpr rfl
        | some w => exact ⟨fun h => (nomatch h), fun h => (nomatch h)⟩
theorem q_si_mins {f h : Nat → Option Int} : ∀ {n : Nat}, (∀ i, i < n → q_si (f i) (h i)) → q_si (e_mins f n) (e_mins h n) := by
  intro n
  induction n with
  | zero => intro _; exact Iff.rfl
  | succ n ih => intro k; exact q_si_min (ih fun i hi => k i (by omega)) (k n (by omega))
theorem q_si_some {x y : Int} : q_si (some x) (some y) := ⟨fun h => (nomatch h), fun h => (nomatch h)⟩
theorem q_si_G {c c' : Nat → Nat → Int} : ∀ d k : Nat, q_si (q_G c k d) (q_G c' k d) := by
  intro d
  induction d with
  | zero => intro k; cases k <;> exact q_si_refl
  | succ d ih =>
    intro k
    cases k with
    | zero => exact q_si_refl
    | succ k => exact q_si_add (q_si_min (ih (k + 1)) (ih k)) q_si_some
/-- all but the SHIFTS -/
def q_sh (g g' : z_St) : Prop := (∀ x, 169 ≤ x → x ≤ 182 → x ≠ 170 → g' x = g x) ∧ ∀ j, 1 ≤ j → j ≤ 22 → g' 168 j = g 168 j
theorem q_si_tab {g g' : z_St} (h : q_sh g g') {w f t : Int} : q_si (q_tab g w f t) (q_tab g' w f t) := by
  unfold q_tab q_tabk
  rw [h.1 178 (by decide) (by decide) (by decide)]
  refine q_si_mins fun i _ => q_si_add ?_ q_si_some
  unfold q_take
  rw [h.1 179 (by decide) (by decide) (by decide)]
  exact q_si_G _ _
theorem q_si_F {g g' : z_St} (h : q_sh g g') {d : Int → Int} : ∀ k t : Nat, q_si (q_F g d k t) (q_F g' d k t) := by
  intro k
  induction k with
  | zero => intro t; cases t <;> exact q_si_refl
  | succ k ih => intro t; exact q_si_mins fun i _ => q_si_add (ih i) (q_si_tab h)
theorem q_si_wt {g g' : z_St} (h : q_sh g g') {n : Int} : q_si (q_wt g n) (q_wt g' n) := by
  unfold q_wt q_W
  rw [h.2 2 (by decide) (by decide)]
  by_cases e : 0 < g 168 2
  · rw [if_pos e, if_pos e]; exact q_si_add (q_si_F h _ _) q_si_some
  · rw [if_neg e, if_neg e]; exact q_si_refl
theorem q_si_bw {g g' : z_St} (h : q_sh g g') : q_si (q_bw g) (q_bw g') := by
  have er : q_rows g' = q_rows g := by unfold q_rows; rw [h.2 18 (by decide) (by decide)]
  have el : q_len g' = q_len g := by unfold q_len; rw [er]
  unfold q_bw
  rw [el]
  refine q_si_mins fun i hi => ?_
  have e : (q_rows g)[i]? = some (q_rows g)[i] := List.getElem?_eq_getElem hi
  have e' : (q_rows g')[i]? = some (q_rows g)[i] := by rw [er]; exact e
  rw [q_wl_at e, q_wl_at e']
  exact q_si_wt h
-- the mean
theorem z_lxor_neg {x y : Int} (hx : z64 x) (hy : z64 y) (h : 0 < y) : z_lxor x y < 0 ↔ x < 0 := by
  have e1 : (zJ x).toInt = x := Int64.toInt_ofInt_of_le hx.1 (by have := hx.2; omega)
  have e2 : (zJ y).toInt = y := Int64.toInt_ofInt_of_le hy.1 (by have := hy.2; omega)
  have m : ∀ z : Int64, z.toBitVec.msb = decide (z.toInt < 0) := fun z => BitVec.msb_eq_toInt
  have k : (zJ x ^^^ zJ y).toBitVec.msb = ((zJ x).toBitVec.msb ^^ (zJ y).toBitVec.msb) := by
    rw [Int64.toBitVec_xor]; exact BitVec.msb_xor
  rw [m, m, m, e1, e2, show decide (y < 0) = false from decide_eq_false (by omega), Bool.xor_false] at k
  show (zJ x ^^^ zJ y).toInt < 0 ↔ x < 0
  exact decide_eq_decide.mp k
set_option maxRecDepth 100000 in
theorem s_J9_floorDiv {x h : Int} {st : z_St} (hx : -100000000 ≤ x ∧ x ≤ 100000000) (hh : 1 ≤ h ∧ h ≤ 16) : J_J9_floorDiv_f86c9 x h st = some (x / h) := by
  have zx : z64 x := ⟨by omega, by omega⟩
  have zh : z64 h := ⟨by omega, by omega⟩
  have hl := z_lxor_neg zx zh (by omega)
  have hz : z64 (z_lxor x h) := z64_of _
  refine q_of ?_
  simp only [J_J9_floorDiv_f86c9, J_J9_floorDiv_f86c9_27, q_g, q_b, q_let, q_ite, q_some]
  rw [hl]
  refine ⟨⟨zx, zh, by omega⟩, ⟨hz, by decide⟩, fun hneg => ?_, fun hpos => ?_⟩
  · obtain ⟨y, rfl⟩ : ∃ y, x = -y := ⟨-x, by omega⟩
    rw [Int.neg_tdiv, Int.tdiv_eq_ediv_of_nonneg (by omega : 0 ≤ y)]
    have hb : 0 ≤ y / h ∧ y / h ≤ y := ⟨Int.ediv_nonneg (by omega) (by omega), Int.ediv_le_self _ (by omega)⟩
    have hc : h = 1 ∨ h = 2 ∨ h = 3 ∨ h = 4 ∨ h = 5 ∨ h = 6 ∨ h = 7 ∨ h = 8 ∨ h = 9 ∨ h = 10 ∨ h = 11 ∨ h = 12 ∨ h = 13 ∨ h = 14 ∨ h = 15 ∨ h = 16 := by omega
    clear zx zh hl hz
    simp only [z64]
    rcases hc with rfl | rfl | rfl | rfl | rfl | rfl | rfl | rfl | rfl | rfl | rfl | rfl | rfl | rfl | rfl | rfl <;> exact ⟨by omega, fun _ => by omega, fun _ => by omega⟩
  · exact Int.tdiv_eq_ediv_of_nonneg (by omega)
set_option maxRecDepth 100000 in
theorem s_X12_down {x h : Int} {st : z_St} (hx : -100000000 ≤ x ∧ x ≤ 100000000) (hh : 1 ≤ h ∧ h ≤ 16) : J_X12_down x h st = some (x / h) := by
  refine q_of ?_
  simp only [J_X12_down, J_X12_down_23, q_g, q_b, q_let, q_ite, q_some, z32, z64, true_or, or_true, true_and, and_true]
  refine ⟨by omega, fun hneg => ⟨by omega, by omega, by omega, ?_⟩, fun hpos => ⟨by omega, by omega, ?_⟩⟩
  · rw [Int.tdiv_eq_ediv_of_nonneg (by omega)]
    have hc : h = 1 ∨ h = 2 ∨ h = 3 ∨ h = 4 ∨ h = 5 ∨ h = 6 ∨ h = 7 ∨ h = 8 ∨ h = 9 ∨ h = 10 ∨ h = 11 ∨ h = 12 ∨ h = 13 ∨ h = 14 ∨ h = 15 ∨ h = 16 := by omega
    rcases hc with rfl | rfl | rfl | rfl | rfl | rfl | rfl | rfl | rfl | rfl | rfl | rfl | rfl | rfl | rfl | rfl <;> omega
  · exact Int.tdiv_eq_ediv_of_nonneg (by omega)
/-- how far the FRAMES lie above what is said there -/
def q_sumA (g : z_St) (a b : Nat → Int) (w : Int) : Int := e_sum (fun fr => (g 169 (3 * (fr : Int) + w) - g 170 (3 * g 168 4 + w)) - q_lies g (a fr) (b fr) w) (g 168 2).toNat
theorem e_sum_ab {f : Nat → Int} {C : Int} : ∀ {n : Nat}, (∀ i, i < n → -C ≤ f i ∧ f i ≤ C) → -(n * C) ≤ e_sum f n ∧ e_sum f n ≤ n * C := by
  intro n
  induction n with
  | zero => intro _; show -((0 : Nat) * C) ≤ 0 ∧ 0 ≤ ((0 : Nat) : Int) * C; rw [show ((0 : Nat) : Int) * C = 0 from Int.zero_mul C]; exact ⟨by decide, by decide⟩
  | succ n ih =>
    intro h
    have h1 := ih fun i hi => h i (by omega)
    have h2 := h n (by omega)
    show _ ≤ e_sum f n + f n ∧ e_sum f n + f n ≤ _
    rw [show ((n + 1 : Nat) : Int) = (n : Int) + 1 by omega, Int.add_mul, Int.one_mul]
    omega
theorem q_sumA_t {g : z_St} (hB : q_RB g) {a b : Nat → Int} {w : Int} (hw : 0 ≤ w ∧ w ≤ 2) {fr : Nat} (hfr : fr < g 168 2) (hab : (0 ≤ a fr ∧ a fr ≤ 5) ∧ 0 ≤ b fr ∧ b fr ≤ 3) : -93000 ≤ (g 169 (3 * (fr : Int) + w) - g 170 (3 * g 168 4 + w)) - q_lies g (a fr) (b fr) w ∧ (g 169 (3 * (fr : Int) + w) - g 170 (3 * g 168 4 + w)) - q_lies g (a fr) (b fr) w ≤ 93000 := by
  have hf1 := hB.1.1
  have hs1 := hB.2.1.1
  have h1 := hB.1.2 (3 * (fr : Int) + w) (by omega) (by omega)
  have h2 := hB.2.1.2 (3 * g 168 4 + w) (by omega) (by omega)
  have h3 := q_lies_bd hB.2.2.1 (s := a fr) (form := b fr) (w := w) (by omega)
  omega
theorem q_sumA_bd {g : z_St} (hB : q_RB g) {a b : Nat → Int} {w : Int} (hw : 0 ≤ w ∧ w ≤ 2) (hab : ∀ fr : Nat, fr < g 168 2 → (0 ≤ a fr ∧ a fr ≤ 5) ∧ 0 ≤ b fr ∧ b fr ≤ 3) : -1488000 ≤ q_sumA g a b w ∧ q_sumA g a b w ≤ 1488000 := by
  have hf1 := hB.1.1
  have := e_sum_ab (C := 93000) (n := (g 168 2).toNat) (f := fun fr => (g 169 (3 * (fr : Int) + w) - g 170 (3 * g 168 4 + w)) - q_lies g (a fr) (b fr) w) (fun fr hfr => q_sumA_t hB hw (by omega) (hab fr (by omega)))
  unfold q_sumA
  omega
theorem s_X11_meanAbove {g st : z_St} (hC : q_C g st) (hB : q_RB g) {a b : Nat → Int} {w : Int} (hw : 0 ≤ w ∧ w ≤ 2) (hf0 : 0 < g 168 2) (hab : ∀ fr : Nat, fr < g 168 2 → (0 ≤ a fr ∧ a fr ≤ 5) ∧ 0 ≤ b fr ∧ b fr ≤ 3) (ht : ∀ fr : Nat, fr < g 168 2 → st 154 fr = a fr ∧ st 155 fr = b fr) : J_X11_meanAbove w st = some (q_sumA g a b w / g 168 2) := by
  have hf1 := hB.1.1
  have e12 := hC.1.1
  have hbd := q_sumA_bd hB hw hab
  refine q_of ?_
  simp only [J_X11_meanAbove, q_g, q_b, q_let, q_ite, q_some, z32, z64, true_or, or_true, true_and, and_true]
  rw [e12]
  refine ⟨by omega, fun h9 => by omega, fun _ => ?_⟩
  have main : z_iter z_F (fun q9 : (Int × Int) => J_X11_meanAbove_b17 w q9.1 q9.2 st) (0, 0) = some (q_sumA g a b w) := by
    have := q_sums0 (B := fun q9 : (Int × Int) => J_X11_meanAbove_b17 w q9.1 q9.2 st) 0 (fun fr => (g 169 (3 * (fr : Int) + w) - g 170 (3 * g 168 4 + w)) - q_lies g (a fr) (b fr) w) (g 168 2).toNat (by omega) (fun fr hfr => ?_) (fun x => ?_)
    · rw [this, Int.zero_add]; rfl
    · have h1 := hab fr (by omega)
      have h2 := ht fr (by omega)
      have h3 := q_sumA_t hB hw (by omega) h1
      refine q_of ?_
      simp only [J_X11_meanAbove_b17, q_g, q_b, q_let, q_ite, q_some, z32, z64, true_or, or_true, true_and, and_true]
      rw [e12, show (150 : Int) + 4 = 154 by decide, show (150 : Int) + 5 = 155 by decide, h2.1, h2.2]
      refine ⟨by omega, fun _ => ⟨by decide, by omega, by omega, q_eq (s_X1_clean hC hB (by omega)) ⟨by decide, by omega, q_eq (s_X9_liesAt hC (by omega)) ⟨by omega, rfl⟩⟩⟩, fun h9 => by omega⟩
    · refine q_of ?_
      simp only [J_X11_meanAbove_b17, q_g, q_b, q_let, q_ite, q_some, z32, z64, true_or, or_true, true_and, and_true]
      rw [e12]
      exact ⟨by omega, fun h9 => by omega, fun _ => trivial⟩
  refine q_eq main ⟨by omega, q_eq (s_J9_floorDiv (by omega) (by omega)) rfl⟩
theorem s_X12_fit37 {g st : z_St} (hS : q_same g st) (hB : q_RB g) {a b : Nat → Int} {w : Int} (hw : 0 ≤ w ∧ w ≤ 2) (hab : ∀ fr : Nat, fr < g 168 2 → (0 ≤ a fr ∧ a fr ≤ 5) ∧ 0 ≤ b fr ∧ b fr ≤ 3) (ht : ∀ fr : Nat, fr < g 168 2 → st 191 (6 * (fr : Int) + 4) = a fr ∧ st 191 (6 * (fr : Int) + 5) = b fr) : z_iter z_F (fun q9 : (Int × Int) => J_X12_fit_b37 w q9.1 q9.2 st) (0, 0) = some (q_sumA g a b w) := by
  have hf1 := hB.1.1
  have hs1 := hB.2.1.1
  have e2 := hS.2 2 (by decide) (by decide)
  have e4 := hS.2 4 (by decide) (by decide)
  have el : ∀ s form w, q_lies st s form w = q_lies g s form w := fun s form w => by unfold q_lies; rw [hS.1 171 (by decide) (by decide), hS.1 176 (by decide) (by decide)]
  have := q_sums0 (B := fun q9 : (Int × Int) => J_X12_fit_b37 w q9.1 q9.2 st) 0 (fun fr => (g 169 (3 * (fr : Int) + w) - g 170 (3 * g 168 4 + w)) - q_lies g (a fr) (b fr) w) (g 168 2).toNat (by omega) (fun fr hfr => ?_) (fun x => ?_)
  · rw [this, Int.zero_add]; rfl
  · have h1 := hab fr (by omega)
    have h2 := ht fr (by omega)
    have h3 := q_sumA_t hB hw (by omega) h1
    refine q_of ?_
    simp only [J_X12_fit_b37, J_X12_clean, q_g, q_b, q_let, q_ite, q_some, z32, z64, true_or, or_true, true_and, and_true]
    rw [e2, e4, h2.1, h2.2, hS.1 169 (by decide) (by decide), hS.1 170 (by decide) (by decide)]
    refine ⟨by omega, fun _ => ⟨by omega, by omega, by omega, by omega, q_eq (s_X12_lies (by omega)) ?_⟩, fun h9 => by omega⟩
    rw [el]
    exact ⟨by omega, rfl⟩
  · refine q_of ?_
    simp only [J_X12_fit_b37, q_g, q_b, q_let, q_ite, q_some, z32, z64, true_or, or_true, true_and, and_true]
    rw [e2]
    exact ⟨by omega, fun h9 => by omega, fun _ => trivial⟩
