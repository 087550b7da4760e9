-- THE SPEAKING STATE: behind a call that changed the class, the cells from 168 on may be any: they are chosen so that the invariant holds
noncomputable def z_gh (s : z_St) : z_St := @dite _ (∃ s2 : z_St, (∀ x, x < 168 → s2 x = s x) ∧ ∃ g, q_INV g s2) (Classical.propDecidable _) (fun h => Classical.choose h) (fun _ => s)
theorem z_gh_low {s : z_St} {x : Int} (hx : x < 168) : z_gh s x = s x := by
  unfold z_gh
  by_cases h : ∃ s2 : z_St, (∀ x, x < 168 → s2 x = s x) ∧ ∃ g, q_INV g s2
  · rw [dif_pos h]; exact (Classical.choose_spec h).1 x hx
  · rw [dif_neg h]
theorem z_gh_inv {s : z_St} (h : ∃ s2 : z_St, (∀ x, x < 168 → s2 x = s x) ∧ ∃ g, q_INV g s2) : ∃ g, q_INV g (z_gh s) := by
  unfold z_gh
  rw [dif_pos h]; exact (Classical.choose_spec h).2
theorem z_ws_low {cA : Nat → ClassId} {T : Nat → z_Ty} {a : Nat → Nat} {N : Nat} {st st' : z_St} (h : ∀ k : Nat, k < N → st' k = st k) : z_ws cA T a N st' = z_ws cA T a N st := by
  unfold z_ws
  refine List.map_congr_left fun k hk => ?_
  rw [h k (List.mem_range.mp hk)]
theorem z_V_low {κ : zK} {T : Nat → z_Ty} {N : Nat} {a : Nat → Nat} {cells slots pc : Nat} {L : List (Nat × Value)} {S : List Value} {st st' : z_St} (h : ∀ k : Nat, k < N → st' k = st k) (kk : z_V κ T N a cells slots pc L S st') : z_V κ T N a cells slots pc L S st := by
  obtain ⟨p, l, e, R, s, m, args, below, meth, c, Q, A, D, cA, nL⟩ := κ
  intro H locs ls hP hS hl
  exact kk H locs ls (by rw [z_ws_low h]; exact hP) hS hl
theorem z_V_gh {α : Type} {F : z_St → Option α} {o : α} {κ : zK} {a : Nat → Nat} {cells slots pc : Nat} {L : List (Nat × Value)} {S : List Value} {st : z_St} (h : z_let (z_gh st) F = some o) (kk : ∀ st, F st = some o → z_V κ z_T z_N a cells slots pc L S st) : z_V κ z_T z_N a cells slots pc L S st := z_V_low (st' := z_gh st) (fun k hk => z_gh_low (by unfold z_N at hk; omega)) (kk _ h)
