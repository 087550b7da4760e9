-- SOUNDS: forward and backward are one
theorem q_G_0 {c : Nat → Nat → Int} {k : Nat} : q_G c (k + 1) 0 = none := by unfold q_G; rfl
theorem q_G_1 {c : Nat → Nat → Int} {d : Nat} : q_G c 0 (d + 1) = none := by unfold q_G; rfl
theorem q_G_s {c : Nat → Nat → Int} {k d : Nat} : q_G c (k + 1) (d + 1) = e_add (e_min (q_G c (k + 1) d) (q_G c k d)) (some (c k d)) := by rw [q_G]
theorem q_G_rev {c c' : Nat → Nat → Int} {K D : Nat} (h : ∀ k d, k < K → d < D → c' k d = c (K - 1 - k) (D - 1 - d)) : q_G c K D = q_G c' K D := by
  cases K with
  | zero => cases D <;> rfl
  | succ K => cases D with
    | zero => rw [q_G_0, q_G_0]
    | succ D =>
      let C : Nat → Nat → Option Int := fun i j => e_min (q_G c' (K + 1 - i) (D + 1 - j)) (q_G c' (K - i) (D + 1 - j))
      let S : Nat → Option Int := fun j => e_mins (fun i => e_add (q_G c (i + 1) j) (C i j)) (K + 1)
      have hC1 : ∀ i j, i ≤ K → j ≤ D → e_le (C i j) (e_add (C i (j + 1)) (some (c i j))) := fun i j hi hj => by
        have e : q_G c' (K + 1 - i) (D + 1 - j) = e_add (C i (j + 1)) (some (c i j)) := by
          rw [show K + 1 - i = (K - i) + 1 by omega, show D + 1 - j = (D - j) + 1 by omega, q_G_s, h _ _ (by omega) (by omega), show K + 1 - 1 - (K - i) = i by omega, show D + 1 - 1 - (D - j) = j by omega]
          show _ = e_add (e_min (q_G c' (K + 1 - i) (D + 1 - (j + 1))) (q_G c' (K - i) (D + 1 - (j + 1)))) _
          rw [show K + 1 - i = K - i + 1 by omega, show D + 1 - (j + 1) = D - j by omega]
        rw [← e]
        exact e_min_le_l
      have hC2 : ∀ i j, i + 1 ≤ K → j ≤ D → e_le (C i j) (e_add (C (i + 1) (j + 1)) (some (c (i + 1) j))) := fun i j hi hj => by
        have e : q_G c' (K - i) (D + 1 - j) = e_add (C (i + 1) (j + 1)) (some (c (i + 1) j)) := by
          rw [show K - i = (K - i - 1) + 1 by omega, show D + 1 - j = (D - j) + 1 by omega, q_G_s, h _ _ (by omega) (by omega), show K + 1 - 1 - (K - i - 1) = i + 1 by omega, show D + 1 - 1 - (D - j) = j by omega]
          show _ = e_add (e_min (q_G c' (K + 1 - (i + 1)) (D + 1 - (j + 1))) (q_G c' (K - (i + 1)) (D + 1 - (j + 1)))) _
          rw [show K + 1 - (i + 1) = K - i - 1 + 1 by omega, show K - (i + 1) = K - i - 1 by omega, show D + 1 - (j + 1) = D - j by omega]
        rw [← e]
        exact e_min_le_r
      have hC3 : ∀ i j, i ≤ K → j ≤ D → C i j = e_min (e_add (C i (j + 1)) (some (c i j))) (if i + 1 ≤ K then e_add (C (i + 1) (j + 1)) (some (c (i + 1) j)) else none) := fun i j hi hj => by
        have e1 : q_G c' (K + 1 - i) (D + 1 - j) = e_add (C i (j + 1)) (some (c i j)) := by
          rw [show K + 1 - i = (K - i) + 1 by omega, show D + 1 - j = (D - j) + 1 by omega, q_G_s, h _ _ (by omega) (by omega), show K + 1 - 1 - (K - i) = i by omega, show D + 1 - 1 - (D - j) = j by omega]
          show _ = e_add (e_min (q_G c' (K + 1 - i) (D + 1 - (j + 1))) (q_G c' (K - i) (D + 1 - (j + 1)))) _
          rw [show K + 1 - i = K - i + 1 by omega, show D + 1 - (j + 1) = D - j by omega]
        show e_min (q_G c' (K + 1 - i) (D + 1 - j)) (q_G c' (K - i) (D + 1 - j)) = _
        rw [e1]
        by_cases hi2 : i + 1 ≤ K
        · rw [if_pos hi2]
          have e2 : q_G c' (K - i) (D + 1 - j) = e_add (C (i + 1) (j + 1)) (some (c (i + 1) j)) := by
            rw [show K - i = (K - i - 1) + 1 by omega, show D + 1 - j = (D - j) + 1 by omega, q_G_s, h _ _ (by omega) (by omega), show K + 1 - 1 - (K - i - 1) = i + 1 by omega, show D + 1 - 1 - (D - j) = j by omega]
            show _ = e_add (e_min (q_G c' (K + 1 - (i + 1)) (D + 1 - (j + 1))) (q_G c' (K - (i + 1)) (D + 1 - (j + 1)))) _
            rw [show K + 1 - (i + 1) = K - i - 1 + 1 by omega, show K - (i + 1) = K - i - 1 by omega, show D + 1 - (j + 1) = D - j by omega]
          rw [e2]
        · rw [if_neg hi2, show K - i = 0 by omega, show D + 1 - j = (D - j) + 1 by omega, q_G_1]
      have hstep : ∀ j, 1 ≤ j → j ≤ D → S j = S (j + 1) := fun j h1 h2 => by
        refine e_le_antisymm ?_ ?_
        · refine e_le_mins fun i hi => ?_
          show e_le (S j) (e_add (q_G c (i + 1) (j + 1)) (C i (j + 1)))
          rw [q_G_s, e_add_assoc, e_min_add]
          refine e_le_min ?_ ?_
          · refine e_le_trans (e_mins_le (f := fun i => e_add (q_G c (i + 1) j) (C i j)) hi) (e_add_le (e_le_refl _) ?_)
            rw [e_add_comm (a := some _)]
            exact hC1 i j (by omega) h2
          · cases i with
            | zero =>
              obtain ⟨j', rfl⟩ : ∃ j', j = j' + 1 := ⟨j - 1, by omega⟩
              rw [q_G_1]
              exact fun y hy => nomatch hy
            | succ i =>
              refine e_le_trans (e_mins_le (f := fun i => e_add (q_G c (i + 1) j) (C i j)) (i := i) (by omega)) (e_add_le (e_le_refl _) ?_)
              rw [e_add_comm (a := some _)]
              exact hC2 i j (by omega) h2
        · refine e_le_mins fun i hi => ?_
          show e_le (S (j + 1)) (e_add (q_G c (i + 1) j) (C i j))
          rw [hC3 i j (by omega) h2, e_add_min]
          refine e_le_min ?_ ?_
          · refine e_le_trans (e_mins_le (f := fun i => e_add (q_G c (i + 1) (j + 1)) (C i (j + 1))) hi) ?_
            show e_le (e_add (q_G c (i + 1) (j + 1)) (C i (j + 1))) _
            rw [q_G_s, e_add_assoc, e_add_comm (a := C i (j + 1))]
            exact e_add_le e_min_le_l (e_le_refl _)
          · by_cases hi2 : i + 1 ≤ K
            · rw [if_pos hi2]
              refine e_le_trans (e_mins_le (f := fun i => e_add (q_G c (i + 1) (j + 1)) (C i (j + 1))) (i := i + 1) (by omega)) ?_
              show e_le (e_add (q_G c (i + 1 + 1) (j + 1)) (C (i + 1) (j + 1))) _
              rw [q_G_s, e_add_assoc, e_add_comm (a := C (i + 1) (j + 1))]
              exact e_add_le e_min_le_r (e_le_refl _)
            · rw [if_neg hi2]
              have : e_add (q_G c (i + 1) j) none = none := by cases q_G c (i + 1) j <;> rfl
              rw [this]
              exact fun y hy => nomatch hy
      have hall : ∀ n, n ≤ D → S 1 = S (1 + n) := by
        intro n
        induction n with
        | zero => intro _; rfl
        | succ n ih => intro hn; rw [ih (by omega), show 1 + (n + 1) = 1 + n + 1 by omega]; exact hstep (1 + n) (by omega) (by omega)
      have hend : S (D + 1) = q_G c (K + 1) (D + 1) := by
        show e_min (e_mins _ K) (e_add (q_G c (K + 1) (D + 1)) (C K (D + 1))) = _
        rw [e_mins_allnone (fun i hi => by
          have : C i (D + 1) = none := by
            show e_min (q_G c' (K + 1 - i) (D + 1 - (D + 1))) (q_G c' (K - i) (D + 1 - (D + 1))) = none
            rw [Nat.sub_self, show K + 1 - i = (K - i) + 1 by omega, show K - i = (K - i - 1) + 1 by omega, q_G_0, q_G_0]; rfl
          rw [this]
          cases q_G c (i + 1) (D + 1) <;> rfl)]
        have : C K (D + 1) = some 0 := by
          show e_min (q_G c' (K + 1 - K) (D + 1 - (D + 1))) (q_G c' (K - K) (D + 1 - (D + 1))) = _
          rw [Nat.sub_self, Nat.sub_self, show K + 1 - K = 0 + 1 by omega, q_G_0]; rfl
        rw [this]
        show e_add _ (some 0) = _
        cases q_G c (K + 1) (D + 1) with
        | none => rfl
        | some x => show some (x + 0) = _; rw [Int.add_zero]
      have hbeg : S 1 = q_G c' (K + 1) (D + 1) := by
        show e_mins (fun i => e_add (q_G c (i + 1) (0 + 1)) (C i 1)) (K + 1) = _
        rw [e_mins_0 (fun i a b => by
          rw [show i = (i - 1) + 1 by omega, q_G_s, q_G_0, q_G_0]; rfl), if_neg (by omega), q_G_s, q_G_s, q_G_0, h _ _ (by omega) (by omega), show K + 1 - 1 - K = 0 by omega, show D + 1 - 1 - D = 0 by omega]
        show e_add (e_add (e_min none (q_G c 0 0)) (some (c 0 0))) (C 0 1) = _
        have : q_G c 0 0 = some 0 := by unfold q_G; rfl
        rw [this]
        show e_add (some (0 + c 0 0)) (C 0 1) = e_add (C 0 1) (some (c 0 0))
        rw [Int.zero_add, e_add_comm]
      have := hall D (Nat.le_refl _)
      rw [hbeg, show 1 + D = D + 1 by omega, hend] at this
      exact this.symm
/-- the COST of the SOUND that r are behind, at the FRAME that e are behind, of t -/
def q_cb (g : z_St) (sa t : Int) (r e : Nat) : Int := q_cost g (t - 1 - e) (g 180 (4 * sa + (g 179 sa - 1 - r))) (q_form g sa (g 179 sa - 1 - r))
def q_Tl (g : z_St) (sa t : Int) (r e : Nat) : Option Int := q_G (q_cb g sa t) r e
theorem q_take_Tl {g : z_St} {sa f t : Int} (h : f ≤ t ∧ 0 ≤ g 179 sa) : q_take g sa f t = q_Tl g sa t (g 179 sa).toNat (t - f).toNat := by
  unfold q_take q_Tl
  refine q_G_rev fun k d hk hd => ?_
  unfold q_cb q_c
  rw [show t - 1 - (d : Int) = f + (((t - f).toNat - 1 - d : Nat) : Int) by omega, show g 179 sa - 1 - (k : Int) = (((g 179 sa).toNat - 1 - k : Nat) : Int) by omega]
theorem q_Tl_s {g : z_St} {sa t : Int} {r e : Nat} : q_Tl g sa t (r + 1) (e + 1) = e_add (e_min (q_Tl g sa t (r + 1) e) (q_Tl g sa t r e)) (some (q_cb g sa t r e)) := q_G_s
theorem q_cb_bd {g : z_St} (hB : q_RB g) {sa t : Int} {r e : Nat} (hsa : q_said g sa) (h : r < g 179 sa ∧ e < t ∧ t ≤ g 168 2) : 0 ≤ q_cb g sa t r e ∧ q_cb g sa t r e ≤ 30000000000 := by
  have hf1 := hB.1.1
  have hs2 := hsa.2.1
  have h1 := hsa.2.2 (g 179 sa - 1 - r) (by omega) (by omega)
  have hc := hB.2.2.1.1
  have h2 := hB.2.2.1.2.2.2.1 (g 180 (4 * sa + (g 179 sa - 1 - r))) (by omega) (by omega)
  have h3 := q_form_bd (g := g) (sa := sa) (p := g 179 sa - 1 - r) h2.1
  exact q_cost_bd hB.1 hB.2.1 hB.2.2.1 (by omega)
theorem q_Tl_bd {g : z_St} (hB : q_RB g) {sa t : Int} {r e : Nat} (hsa : q_said g sa) (h : r ≤ g 179 sa ∧ e ≤ t ∧ t ≤ g 168 2) : e_bd 600000000000 (q_Tl g sa t r e) := by
  have hf1 := hB.1.1
  have h1 := q_G_bd (c := q_cb g sa t) (C := 30000000000) (by decide) e r (fun k' d' a b => q_cb_bd hB hsa (by omega))
  exact e_bd_le (by omega) h1
