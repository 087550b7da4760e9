-- WHAT IS KEPT, AND WHEN IT HOLDS
theorem q_xok {α β : Type} {x : Option (z_R α)} {f : α → Option (z_R β)} {P : z_R β → Prop} (h : q_ok x (fun r => match r with | .inl v => q_ok (f v) P | .inr q => P (.inr q))) : q_ok (z_x x f) P := by
  obtain ⟨r, h1, h2⟩ := h
  unfold z_x
  rw [h1]
  cases r with
  | inl v => exact h2
  | inr q => exact ⟨_, rfl, h2⟩
theorem q_xl {α β : Type} {x : Option (z_R α)} {v : α} {f : α → Option (z_R β)} {P : z_R β → Prop} (h : x = some (.inl v)) (k : q_ok (f v) P) : q_ok (z_x x f) P := by unfold z_x; rw [h]; exact k
theorem q_xr {α β : Type} {x : Option (z_R α)} {q : Nat × z_St} {f : α → Option (z_R β)} {P : z_R β → Prop} (h : x = some (.inr q)) (k : P (.inr q)) : q_ok (z_x x f) P := by unfold z_x; rw [h]; exact ⟨_, rfl, k⟩
theorem s_range_y {x lo hi : Int} {st : z_St} (h : z32 x ∧ z32 lo ∧ z32 hi) (k : lo ≤ x ∧ x ≤ hi) : J_X11_checkRange x lo hi st = some (.inl ()) := by
  refine q_of ?_
  simp only [J_X11_checkRange, J_X11_checkRange_10, q_g, q_b, q_let, q_ite, q_some, z32, z64, true_or, or_true, true_and, and_true]
  obtain ⟨⟨a1, a2⟩, ⟨b1, b2⟩, c1, c2⟩ := h
  exact ⟨by omega, fun h9 => by omega, fun _ => ⟨by omega, fun h9 => by omega, fun _ => trivial⟩⟩
theorem s_range_n {x lo hi : Int} {st : z_St} (h : z32 x ∧ z32 lo ∧ z32 hi) (k : ¬ (lo ≤ x ∧ x ≤ hi)) : J_X11_checkRange x lo hi st = some (.inr (1, st)) := by
  refine q_of ?_
  simp only [J_X11_checkRange, J_X11_checkRange_10, q_g, q_b, q_let, q_ite, q_some, z32, z64, true_or, or_true, true_and, and_true]
  obtain ⟨⟨a1, a2⟩, ⟨b1, b2⟩, c1, c2⟩ := h
  exact ⟨by omega, fun h9 => trivial, fun _ => ⟨by omega, fun h9 => trivial, fun _ => by omega⟩⟩
theorem s_index_y {x n : Int} {st : z_St} (h : z32 x ∧ z32 n) (k : 0 ≤ x ∧ x < n) : J_X11_checkIndex x n st = some (.inl ()) := by
  refine q_of ?_
  simp only [J_X11_checkIndex, J_X11_checkIndex_9, q_g, q_b, q_let, q_ite, q_some, z32, z64, true_or, or_true, true_and, and_true]
  obtain ⟨⟨a1, a2⟩, b1, b2⟩ := h
  exact ⟨by omega, fun h9 => by omega, fun _ => ⟨by omega, fun h9 => trivial, fun _ => by omega⟩⟩
theorem s_index_n {x n : Int} {st : z_St} (h : z32 x ∧ z32 n) (k : ¬ (0 ≤ x ∧ x < n)) : J_X11_checkIndex x n st = some (.inr (3, st)) := by
  refine q_of ?_
  simp only [J_X11_checkIndex, J_X11_checkIndex_9, q_g, q_b, q_let, q_ite, q_some, z32, z64, true_or, or_true, true_and, and_true]
  obtain ⟨⟨a1, a2⟩, b1, b2⟩ := h
  exact ⟨by omega, fun h9 => trivial, fun _ => ⟨by omega, fun h9 => by omega, fun _ => trivial⟩⟩
theorem s_least_y {x n : Int} {st : z_St} (h : z64 x ∧ z64 n) (k : n ≤ x) : J_X11_checkAtLeast x n st = some (.inl ()) := by
  refine q_of ?_
  simp only [J_X11_checkAtLeast, q_g, q_b, q_let, q_ite, q_some, z32, z64, true_or, or_true, true_and, and_true]
  obtain ⟨⟨a1, a2⟩, b1, b2⟩ := h
  exact ⟨by omega, fun h9 => by omega, fun _ => trivial⟩
theorem s_least_n {x n : Int} {st : z_St} (h : z64 x ∧ z64 n) (k : x < n) : J_X11_checkAtLeast x n st = some (.inr (1, st)) := by
  refine q_of ?_
  simp only [J_X11_checkAtLeast, q_g, q_b, q_let, q_ite, q_some, z32, z64, true_or, or_true, true_and, and_true]
  obtain ⟨⟨a1, a2⟩, b1, b2⟩ := h
  exact ⟨by omega, fun h9 => trivial, fun _ => by omega⟩
theorem s_orNone {B : Int} {o : Option Int} {st : z_St} (h : e_bd B o) (hB : B < 1152921504606846976) : J_X11_orNone (e_I 1152921504606846976 o) st = some (e_I (-1) o) := by
  have hb := e_I_le (K := 1152921504606846976) h (by decide) hB
  refine q_of ?_
  simp only [J_X11_orNone, J_X11_orNone_15, q_g, q_b, q_let, q_ite, q_some, z32, z64, true_or, or_true, true_and, and_true]
  cases o with
  | none => rw [e_I_none]; exact ⟨by decide, fun h9 => absurd h9 (by decide), fun _ => rfl⟩
  | some x => have := h x rfl; rw [e_I_some]; exact ⟨by omega, fun _ => rfl, fun h9 => by omega⟩
set_option maxRecDepth 100000 in
theorem s_checkRow {g st : z_St} (hC : q_C g st) (hB : q_RB g) {n : Int} (hn : z32 n) : (q_isRow g n → J_X11_checkRow n st = some (.inl ())) ∧ (¬ q_isRow g n → J_X11_checkRow n st = some (.inr (1, st))) := by
  have hw1 := hB.2.2.2.2.1.1
  have e24 := hC.2.2.2.2.1.1
  have hn2 : -2147483648 ≤ n ∧ n ≤ 2147483647 := hn
  have hmb := q_many_bd n
  have hm : q_many n = if n < 1 then 0 else if n < 10 then 1 else if n < 100 then 2 else if n < 1000 then 3 else if n < 10000 then 4 else 0 := rfl
  by_cases hr : 1 ≤ n ∧ n ≤ 9999
  · -- the digits from below
    have hdig : ∀ j : Int, 0 ≤ j → j < q_many n → q_dig n (q_many n - 1 - j) = n / q_ten j % 10 - 1 := fun j a b => by
      unfold q_dig; rw [show q_many n - 1 - (q_many n - 1 - j) = j by omega]
    have key : q_ok (z_iter z_F (fun q9 : Int => J_X11_checkRow_b10 q9 st) n) (fun r => (q_isRow g n → r = .inl ()) ∧ (¬ q_isRow g n → r = .inr (1, st))) := by
      refine q_loop (fun q => ∃ j : Nat, (j : Int) ≤ q_many n ∧ q = (if j = 0 then n else if j = 1 then n / 10 else if j = 2 then n / 100 else if j = 3 then n / 1000 else n / 10000) ∧ ∀ i : Int, 0 ≤ i → i < j → 0 ≤ n / q_ten i % 10 - 1 ∧ n / q_ten i % 10 - 1 < g 168 18) (fun q => q.toNat) ⟨0, by omega, rfl, fun i a b => by omega⟩ (by omega) ?_
      rintro v ⟨j, i1, i2, i3⟩
      have hv : 0 ≤ v ∧ v ≤ 9999 := by rw [i2]; (repeat' split) <;> omega
      have hvj : j < q_many n → v = n / q_ten j := fun hj => by
        have hj4 : j = 0 ∨ j = 1 ∨ j = 2 ∨ j = 3 := by omega
        rcases hj4 with rfl | rfl | rfl | rfl
        · rw [i2, if_pos rfl, show q_ten ((0 : Nat) : Int) = 1 from rfl, Int.ediv_one]
        · rw [i2]; rfl
        · rw [i2]; rfl
        · rw [i2]; rfl
      have hpos : 0 < v ↔ (j : Int) < q_many n := by
        rw [i2]
        (repeat' split) <;> omega
      simp only [J_X11_checkRow_b10, q_g, q_b, q_let, q_ite, q_some, z32, z64, true_or, or_true, true_and, and_true]
      rw [Int.tmod_eq_emod_of_nonneg hv.1, Int.tdiv_eq_ediv_of_nonneg hv.1, e24]
      refine ⟨by omega, fun hp => ⟨⟨by omega, by decide, by decide⟩, ?_⟩, fun hp => ?_⟩
      · have hj := hpos.mp hp
        have hvv := hvj hj
        by_cases hd : 1 ≤ v % 10 ∧ v % 10 ≤ g 168 18
        · have hy := s_range_y (st := st) (x := v % 10) (lo := 1) (hi := g 168 18) ⟨⟨by omega, by omega⟩, by decide, ⟨by omega, by omega⟩⟩ hd
          unfold z_xl
          rw [hy]
          dsimp only
          simp only [q_g, q_b, q_let, q_ite, q_some, z32, z64, true_or, or_true, true_and, and_true]
          refine ⟨⟨by omega, by decide, by decide⟩, ⟨j + 1, by omega, ?_, fun i a b => ?_⟩, by omega⟩
          · rw [i2]
            have hj4 : j = 0 ∨ j = 1 ∨ j = 2 ∨ j = 3 := by omega
            rcases hj4 with rfl | rfl | rfl | rfl <;> simp <;> omega
          · by_cases e : i = j
            · subst e; rw [← hvv]; omega
            · exact i3 i a (by omega)
        · have hno := s_range_n (st := st) (x := v % 10) (lo := 1) (hi := g 168 18) ⟨⟨by omega, by omega⟩, by decide, ⟨by omega, by omega⟩⟩ hd
          unfold z_xl
          rw [hno]
          refine ⟨_, rfl, fun hrow => ?_, fun _ => rfl⟩
          have h9 := hrow.2 (q_many n - 1 - j) (by omega) (by omega)
          rw [hdig j (by omega) hj, ← hvv] at h9
          omega
      · have hj : ¬ (j : Int) < q_many n := fun h9 => hp (hpos.mpr h9)
        have hrow : q_isRow g n := ⟨by omega, fun k a b => by
          have := i3 (q_many n - 1 - k) (by omega) (by omega)
          rw [← hdig _ (by omega) (by omega), show q_many n - 1 - (q_many n - 1 - k) = k by omega] at this
          exact this⟩
        exact ⟨fun _ => trivial, fun h9 => absurd hrow h9⟩
    have h1 := s_range_y (st := st) (x := n) (lo := 1) (hi := 9999) ⟨hn, by decide, by decide⟩ hr
    obtain ⟨r, k1, k2, k3⟩ := key
    constructor
    · intro hrow
      unfold J_X11_checkRow z_x
      rw [h1]
      show z_b _ _ = _
      rw [k1, k2 hrow]; rfl
    · intro hrow
      unfold J_X11_checkRow z_x
      rw [h1]
      show z_b _ _ = _
      rw [k1, k3 hrow]; rfl
  · have hno : ¬ q_isRow g n := fun h9 => by have := h9.1; omega
    refine ⟨fun h9 => absurd h9 hno, fun _ => ?_⟩
    have h1 := s_range_n (st := st) (x := n) (lo := 1) (hi := 9999) ⟨hn, by decide, by decide⟩ hr
    unfold J_X11_checkRow z_x
    rw [h1]
