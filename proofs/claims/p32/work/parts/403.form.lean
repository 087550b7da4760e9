-- FORM, LG, PRICE
def q_hit (g : z_St) (sa p q : Int) : Prop := let s := g 180 (4 * sa + p); let b := if g 174 (3 * s + q) = 0 then p - 1 else p + 1; (0 ≤ b ∧ b ≤ g 179 sa - 1) ∧ z_iand (z_ishr (g 175 (3 * s + q)) (g 180 (4 * sa + b))) 1 = 1
def q_hitD (g : z_St) (sa p q : Int) : Decidable (q_hit g sa p q) := by unfold q_hit; exact inferInstance
/-- the FORM of the SOUND at the place p of the SAYING sa -/
def q_form (g : z_St) (sa p : Int) : Int := let s := g 180 (4 * sa + p); if 0 < g 173 s ∧ @decide _ (q_hitD g sa p 0) then 1 else if 1 < g 173 s ∧ @decide _ (q_hitD g sa p 1) then 2 else if 2 < g 173 s ∧ @decide _ (q_hitD g sa p 2) then 3 else 0
theorem q_form_bd {g : z_St} {sa p : Int} (h : 0 ≤ g 173 (g 180 (4 * sa + p))) : 0 ≤ q_form g sa p ∧ q_form g sa p ≤ g 173 (g 180 (4 * sa + p)) := by
  unfold q_form
  dsimp only
  (repeat' split) <;> omega
theorem q_form_is {g : z_St} {sa p v : Int} (h3 : g 173 (g 180 (4 * sa + p)) ≤ 3) (h0 : 0 ≤ v) (hv : v < g 173 (g 180 (4 * sa + p))) (hh : q_hit g sa p v) (hb : ∀ j, 0 ≤ j → j < v → ¬ q_hit g sa p j) : q_form g sa p = v + 1 := by
  have hv3 : v = 0 ∨ v = 1 ∨ v = 2 := by omega
  unfold q_form
  dsimp only
  rcases hv3 with rfl | rfl | rfl
  · rw [if_pos ⟨by omega, @decide_eq_true _ (q_hitD g sa p 0) hh⟩]; rfl
  · rw [if_neg (fun k => hb 0 (by omega) (by omega) (@of_decide_eq_true _ (q_hitD g sa p 0) k.2)), if_pos ⟨by omega, @decide_eq_true _ (q_hitD g sa p 1) hh⟩]; rfl
  · rw [if_neg (fun k => hb 0 (by omega) (by omega) (@of_decide_eq_true _ (q_hitD g sa p 0) k.2)), if_neg (fun k => hb 1 (by omega) (by omega) (@of_decide_eq_true _ (q_hitD g sa p 1) k.2)), if_pos ⟨by omega, @decide_eq_true _ (q_hitD g sa p 2) hh⟩]; rfl
theorem q_form_0 {g : z_St} {sa p : Int} (hb : ∀ j, 0 ≤ j → j < g 173 (g 180 (4 * sa + p)) → ¬ q_hit g sa p j) : q_form g sa p = 0 := by
  unfold q_form
  dsimp only
  rw [if_neg (fun k => hb 0 (by omega) k.1 (@of_decide_eq_true _ (q_hitD g sa p 0) k.2)), if_neg (fun k => hb 1 (by omega) k.1 (@of_decide_eq_true _ (q_hitD g sa p 1) k.2)), if_neg (fun k => hb 2 (by omega) k.1 (@of_decide_eq_true _ (q_hitD g sa p 2) k.2))]
theorem s_X12_formOf {g st : z_St} (hS : q_same g st) (hn : q_Rn g) (hw : q_Rw g) {sa p : Int} (h : 0 ≤ sa ∧ sa ≤ 9 ∧ 0 ≤ p ∧ p < g 179 sa) : J_X12_formOf sa p st = some (q_form g sa p) := by
  have hl := (hw.2.2.2.2.1 sa (by omega) (by omega)).1
  have hsd := hw.2.2.2.2.2.1 (4 * sa + p) (by omega) (by omega)
  have ha := hn.2.2.2.1 (g 180 (4 * sa + p)) (by omega) (by omega)
  refine q_of ?_
  simp only [J_X12_formOf, J_X12_formOf_108, J_X12_formOf_48, q_g, q_b, q_let, q_ite, q_some, z32, z64, true_or, or_true, true_and, and_true]
  rw [hS.1 180 (by decide) (by decide)]
  refine ⟨by omega, ?_⟩
  refine q_mono (P := fun x => match x with | .inl _ => q_form g sa p = 0 | .inr y => q_form g sa p = y + 1) ?_ ?_
  · refine q_loop (fun q => 0 ≤ q ∧ q ≤ g 173 (g 180 (4 * sa + p)) ∧ ∀ j, 0 ≤ j → j < q → ¬ q_hit g sa p j) (fun q => (3 - q).toNat) ⟨by omega, by omega, fun j h1 h2 => by omega⟩ (by decide) ?_
    rintro q ⟨i1, i2, i3⟩
    simp only [J_X12_formOf_b14, J_X12_formOf_48, J_X12_formOf_108, q_g, q_b, q_let, q_ite, q_some, z32, z64, true_or, or_true, true_and, and_true]
    rw [hS.1 173 (by decide) (by decide), hS.1 174 (by decide) (by decide), hS.1 179 (by decide) (by decide), hS.1 175 (by decide) (by decide), hS.1 180 (by decide) (by decide)]
    refine ⟨by omega, by omega, fun hlt => ?_, fun hge => q_form_0 fun j h1 h2 => i3 j h1 (by omega)⟩
    have hsi := (hn.2.2.2.2 (3 * g 180 (4 * sa + p) + q) (by omega) (by omega)).1
    have step : ∀ b, b = (if g 174 (3 * g 180 (4 * sa + p) + q) = 0 then p - 1 else p + 1) → ((-2147483648 ≤ b ∧ b ≤ 2147483647) ∧ (0 ≤ sa ∧ sa < 10) ∧ (-2147483648 ≤ g 179 sa - 1 ∧ g 179 sa - 1 ≤ 2147483647) ∧ q_ok (J_X12_in b 0 (g 179 sa - 1) st) (fun v => (-2147483648 ≤ v ∧ v ≤ 2147483647) ∧ (v = 0 → ((0 ≤ q + 1 ∧ q + 1 ≤ g 173 (g 180 (4 * sa + p)) ∧ ∀ j, 0 ≤ j → j < q + 1 → ¬ q_hit g sa p j) ∧ (3 - (q + 1)).toNat < (3 - q).toNat)) ∧ (¬ v = 0 → (0 ≤ 3 * g 180 (4 * sa + p) + q ∧ 3 * g 180 (4 * sa + p) + q < 18) ∧ (0 ≤ 4 * sa + b ∧ 4 * sa + b < 40) ∧ ((-2147483648 ≤ z_iand (z_ishr (g 175 (3 * g 180 (4 * sa + p) + q)) (g 180 (4 * sa + b))) 1 ∧ z_iand (z_ishr (g 175 (3 * g 180 (4 * sa + p) + q)) (g 180 (4 * sa + b))) 1 ≤ 2147483647) ∧ -2147483648 ≤ (1 : Int) ∧ (1 : Int) ≤ 2147483647) ∧ (z_iand (z_ishr (g 175 (3 * g 180 (4 * sa + p) + q)) (g 180 (4 * sa + b))) 1 = 1 → q_form g sa p = q + 1) ∧ (¬ z_iand (z_ishr (g 175 (3 * g 180 (4 * sa + p) + q)) (g 180 (4 * sa + b))) 1 = 1 → ((0 ≤ q + 1 ∧ q + 1 ≤ g 173 (g 180 (4 * sa + p)) ∧ ∀ j, 0 ≤ j → j < q + 1 → ¬ q_hit g sa p j) ∧ (3 - (q + 1)).toNat < (3 - q).toNat))))) := by
      intro b hb
      have hbd : p - 1 ≤ b ∧ b ≤ p + 1 := by rw [hb]; split <;> omega
      have nxt : ¬ q_hit g sa p q → ((0 ≤ q + 1 ∧ q + 1 ≤ g 173 (g 180 (4 * sa + p)) ∧ ∀ j, 0 ≤ j → j < q + 1 → ¬ q_hit g sa p j) ∧ (3 - (q + 1)).toNat < (3 - q).toNat) := fun hno => ⟨⟨by omega, by omega, fun j h1 h2 => by
        by_cases e : j = q
        · subst e; exact hno
        · exact i3 j h1 (by omega)⟩, by omega⟩
      have hq : q_hit g sa p q ↔ (0 ≤ b ∧ b ≤ g 179 sa - 1) ∧ z_iand (z_ishr (g 175 (3 * g 180 (4 * sa + p) + q)) (g 180 (4 * sa + b))) 1 = 1 := by
        rw [hb]; exact Iff.rfl
      refine ⟨by omega, by omega, by omega, ?_⟩
      refine q_eq (s_X12_in (by omega)) ?_
      refine ⟨by unfold q_in; split <;> omega, fun e => nxt fun k => ?_, fun e => ?_⟩
      · exact q_in_0' e (hq.mp k).1
      · have hin := q_in_n0 e
        refine ⟨by omega, by omega, ⟨z32_of _, by decide⟩, fun e1 => q_form_is (by omega) i1 hlt (hq.mpr ⟨hin, e1⟩) i3, fun e1 => nxt fun k => e1 (hq.mp k).2⟩
    refine ⟨by omega, by omega, fun e0 => ?_, fun e0 => ?_⟩
    · exact step (p - 1) (by rw [if_pos e0])
    · exact step (p + 1) (by rw [if_neg e0])
  · intro x hx
    cases x with
    | inl u => exact ⟨0, rfl, hx.symm⟩
    | inr y => exact ⟨y + 1, rfl, hx.symm⟩
