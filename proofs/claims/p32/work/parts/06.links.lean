-- THE LAYOUT: what the cells of the world are (laid by wip/gen32/links.py)
def z_L : List z_Ty := [.inl (11, [(4, 1), (4, 24), (4, 89), (4, 99), (4, 134), (4, 140), (4, 144), (4, 148), (4, 158), (4, 160), (4, 162)]),
  .inl (1, [(4, 1), (4, 18), (0, 0), (0, 0)]),
  .inr (4, 3, 16, 1, 1),
  .inr (0, 0, 3, 0, 0),
  .inr (0, 0, 3, 0, 0),
  .inr (0, 0, 3, 0, 0),
  .inr (0, 0, 3, 0, 0),
  .inr (0, 0, 3, 0, 0),
  .inr (0, 0, 3, 0, 0),
  .inr (0, 0, 3, 0, 0),
  .inr (0, 0, 3, 0, 0),
  .inr (0, 0, 3, 0, 0),
  .inr (0, 0, 3, 0, 0),
  .inr (0, 0, 3, 0, 0),
  .inr (0, 0, 3, 0, 0),
  .inr (0, 0, 3, 0, 0),
  .inr (0, 0, 3, 0, 0),
  .inr (0, 0, 3, 0, 0),
  .inr (0, 0, 3, 0, 0),
  .inr (4, 3, 4, 1, 1),
  .inr (0, 0, 3, 0, 0),
  .inr (0, 0, 3, 0, 0),
  .inr (0, 0, 3, 0, 0),
  .inr (0, 0, 3, 0, 0),
  .inl (4, [(4, 1), (0, 0), (4, 2), (4, 3), (0, 0), (4, 4), (0, 0)]),
  .inr (4, 5, 6, 4, 5),
  .inr (4, 6, 10, 33, 3),
  .inr (0, 0, 5, 0, 0),
  .inr (0, 0, 4, 0, 0),
  .inl (9, [(4, 1), (0, 0), (4, 2), (4, 3), (4, 4), (0, 0)]),
  .inr (0, 0, 3, 0, 0),
  .inr (0, 0, 3, 0, 0),
  .inr (0, 0, 3, 0, 0),
  .inr (0, 0, 3, 0, 0),
  .inl (9, [(4, 1), (0, 0), (4, 2), (4, 3), (4, 4), (0, 0)]),
  .inr (0, 0, 3, 0, 0),
  .inr (0, 0, 3, 0, 0),
  .inr (0, 0, 3, 0, 0),
  .inr (0, 0, 3, 0, 0),
  .inl (9, [(4, 1), (0, 0), (4, 2), (4, 3), (4, 4), (0, 0)]),
  .inr (0, 0, 3, 0, 0),
  .inr (0, 0, 3, 0, 0),
  .inr (0, 0, 3, 0, 0),
  .inr (0, 0, 3, 0, 0),
  .inl (9, [(4, 1), (0, 0), (4, 2), (4, 3), (4, 4), (0, 0)]),
  .inr (0, 0, 3, 0, 0),
  .inr (0, 0, 3, 0, 0),
  .inr (0, 0, 3, 0, 0),
  .inr (0, 0, 3, 0, 0),
  .inl (9, [(4, 1), (0, 0), (4, 2), (4, 3), (4, 4), (0, 0)]),
  .inr (0, 0, 3, 0, 0),
  .inr (0, 0, 3, 0, 0),
  .inr (0, 0, 3, 0, 0),
  .inr (0, 0, 3, 0, 0),
  .inl (9, [(4, 1), (0, 0), (4, 2), (4, 3), (4, 4), (0, 0)]),
  .inr (0, 0, 3, 0, 0),
  .inr (0, 0, 3, 0, 0),
  .inr (0, 0, 3, 0, 0),
  .inr (0, 0, 3, 0, 0),
  .inl (7, [(4, 1), (4, 2), (0, 0), (0, 0)]),
  .inr (0, 0, 4, 0, 0),
  .inr (0, 0, 4, 0, 0),
  .inl (7, [(4, 1), (4, 2), (0, 0), (0, 0)]),
  .inr (0, 0, 4, 0, 0),
  .inr (0, 0, 4, 0, 0),
  .inl (7, [(4, 1), (4, 2), (0, 0), (0, 0)]),
  .inr (0, 0, 4, 0, 0),
  .inr (0, 0, 4, 0, 0),
  .inl (7, [(4, 1), (4, 2), (0, 0), (0, 0)]),
  .inr (0, 0, 4, 0, 0),
  .inr (0, 0, 4, 0, 0),
  .inl (7, [(4, 1), (4, 2), (0, 0), (0, 0)]),
  .inr (0, 0, 4, 0, 0),
  .inr (0, 0, 4, 0, 0),
  .inl (7, [(4, 1), (4, 2), (0, 0), (0, 0)]),
  .inr (0, 0, 4, 0, 0),
  .inr (0, 0, 4, 0, 0),
  .inl (7, [(4, 1), (4, 2), (0, 0), (0, 0)]),
  .inr (0, 0, 4, 0, 0),
  .inr (0, 0, 4, 0, 0),
  .inl (7, [(4, 1), (4, 2), (0, 0), (0, 0)]),
  .inr (0, 0, 4, 0, 0),
  .inr (0, 0, 4, 0, 0),
  .inl (7, [(4, 1), (4, 2), (0, 0), (0, 0)]),
  .inr (0, 0, 4, 0, 0),
  .inr (0, 0, 4, 0, 0),
  .inl (7, [(4, 1), (4, 2), (0, 0), (0, 0)]),
  .inr (0, 0, 4, 0, 0),
  .inr (0, 0, 4, 0, 0),
  .inl (2, [(4, 1), (4, 8), (4, 9), (0, 0), (0, 0), (0, 0)]),
  .inr (4, 3, 6, 1, 1),
  .inr (0, 0, 6, 0, 0),
  .inr (0, 0, 6, 0, 0),
  .inr (0, 0, 6, 0, 0),
  .inr (0, 0, 6, 0, 0),
  .inr (0, 0, 6, 0, 0),
  .inr (0, 0, 6, 0, 0),
  .inr (0, 0, 6, 0, 0),
  .inr (0, 0, 6, 0, 0),
  .inl (0, [(4, 1), (4, 26), (4, 27), (4, 34), (2, 0)]),
  .inr (4, 4, 24, 1, 1),
  .inr (1, 1, 16, 0, 0),
  .inr (1, 1, 16, 0, 0),
  .inr (1, 1, 16, 0, 0),
  .inr (1, 1, 16, 0, 0),
  .inr (1, 1, 16, 0, 0),
  .inr (1, 1, 16, 0, 0),
  .inr (1, 1, 16, 0, 0),
  .inr (1, 1, 16, 0, 0),
  .inr (1, 1, 16, 0, 0),
  .inr (1, 1, 16, 0, 0),
  .inr (1, 1, 16, 0, 0),
  .inr (1, 1, 16, 0, 0),
  .inr (1, 1, 16, 0, 0),
  .inr (1, 1, 16, 0, 0),
  .inr (1, 1, 16, 0, 0),
  .inr (1, 1, 16, 0, 0),
  .inr (1, 1, 16, 0, 0),
  .inr (1, 1, 16, 0, 0),
  .inr (1, 1, 16, 0, 0),
  .inr (1, 1, 16, 0, 0),
  .inr (1, 1, 16, 0, 0),
  .inr (1, 1, 16, 0, 0),
  .inr (1, 1, 16, 0, 0),
  .inr (1, 1, 16, 0, 0),
  .inr (1, 1, 1445, 0, 0),
  .inr (4, 4, 6, 1, 1),
  .inr (1, 1, 6, 0, 0),
  .inr (1, 1, 6, 0, 0),
  .inr (1, 1, 6, 0, 0),
  .inr (1, 1, 6, 0, 0),
  .inr (1, 1, 6, 0, 0),
  .inr (1, 1, 6, 0, 0),
  .inr (1, 1, 4, 0, 0),
  .inl (5, [(4, 1), (4, 2), (4, 3), (3, 0), (3, 0), (0, 0), (0, 0), (0, 0), (0, 0), (2, 0), (2, 0)]),
  .inr (0, 0, 780, 0, 0),
  .inr (1, 1, 780, 0, 0),
  .inr (1, 1, 2635, 0, 0),
  .inr (0, 0, 780, 0, 0),
  .inr (0, 0, 780, 0, 0),
  .inl (8, [(4, 1), (4, 2), (4, 3), (0, 0), (0, 0), (1, 0)]),
  .inr (1, 1, 340, 0, 0),
  .inr (0, 0, 340, 0, 0),
  .inr (2, 2, 20, 0, 0),
  .inl (3, [(4, 1), (4, 2), (4, 3), (0, 0), (0, 0), (2, 0)]),
  .inr (1, 1, 1445, 0, 0),
  .inr (1, 1, 340, 0, 0),
  .inr (1, 1, 340, 0, 0),
  .inl (10, [(4, 1), (4, 8), (4, 9), (2, 0)]),
  .inr (4, 3, 6, 1, 1),
  .inr (0, 0, 16, 0, 0),
  .inr (0, 0, 16, 0, 0),
  .inr (0, 0, 16, 0, 0),
  .inr (0, 0, 16, 0, 0),
  .inr (0, 0, 16, 0, 0),
  .inr (0, 0, 16, 0, 0),
  .inr (1, 1, 85, 0, 0),
  .inr (1, 1, 85, 0, 0),
  .inl (6, [(4, 1), (0, 0)]),
  .inr (0, 0, 4, 0, 0),
  .inl (6, [(4, 1), (0, 0)]),
  .inr (0, 0, 4, 0, 0),
  .inr (4, 3, 5, 1, 1),
  .inr (0, 0, 5, 0, 0),
  .inr (0, 0, 5, 0, 0),
  .inr (0, 0, 5, 0, 0),
  .inr (0, 0, 5, 0, 0),
  .inr (0, 0, 5, 0, 0)]
def z_T (k : Nat) : z_Ty := z_L.getD k (.inl (99, []))
def z_N : Nat := 168
abbrev z_isSound (e : Int) : Prop := 29 ≤ e ∧ e ≤ 54 ∧ (e - 29) % 5 = 0
theorem z_Sound_of {i : Int} (h : 0 ≤ i ∧ i < 6) : z_isSound (29 + 5 * i) := ⟨by omega, by omega, by omega⟩
theorem z_Sound_all : ∀ j, j < 6 → z_T (29 + 5 * j) = .inl (9, [(4, 1), (0, 0), (4, 2), (4, 3), (4, 4), (0, 0)]) ∧ z_T (29 + 5 * j + 1) = .inr (0, 0, 3, 0, 0) ∧ z_T (29 + 5 * j + 2) = .inr (0, 0, 3, 0, 0) ∧ z_T (29 + 5 * j + 3) = .inr (0, 0, 3, 0, 0) ∧ z_T (29 + 5 * j + 4) = .inr (0, 0, 3, 0, 0) := fun j hj => match j, hj with
  | 0, _ => ⟨rfl, rfl, rfl, rfl, rfl⟩
  | 1, _ => ⟨rfl, rfl, rfl, rfl, rfl⟩
  | 2, _ => ⟨rfl, rfl, rfl, rfl, rfl⟩
  | 3, _ => ⟨rfl, rfl, rfl, rfl, rfl⟩
  | 4, _ => ⟨rfl, rfl, rfl, rfl, rfl⟩
  | 5, _ => ⟨rfl, rfl, rfl, rfl, rfl⟩
  | _ + 6, h => absurd h (by omega)
theorem z_Sound_ix {e : Int} (h : z_isSound e) : ∃ j : Nat, j < 6 ∧ e.toNat = 29 + 5 * j := by
  obtain ⟨h1, h2, h3⟩ := h
  refine ⟨((e - 29) / 5).toNat, ?_, ?_⟩ <;> omega
theorem z_Sound_c {e : Int} (h : z_isSound e) : ((e.toNat : Nat) : Int) = e := Int.toNat_of_nonneg (by omega)
theorem z_Sound_lt {e : Int} (h : z_isSound e) : e.toNat < z_N := by unfold z_N; omega
theorem z_Sound_T {e : Int} (h : z_isSound e) : z_T (e.toNat) = .inl (9, [(4, 1), (0, 0), (4, 2), (4, 3), (4, 4), (0, 0)]) := by
  obtain ⟨j, h1, h2⟩ := z_Sound_ix h
  rw [h2]
  exact (z_Sound_all j h1).1
theorem z_Sound_T1 {e : Int} (h : z_isSound e) : z_T (e.toNat + 1) = .inr (0, 0, 3, 0, 0) := by
  obtain ⟨j, h1, h2⟩ := z_Sound_ix h
  rw [h2]
  exact (z_Sound_all j h1).2.1
theorem z_Sound_lt1 {e : Int} (h : z_isSound e) : e.toNat + 1 < z_N := by unfold z_N; omega
theorem z_Sound_c1 {e : Int} (h : z_isSound e) : ((e.toNat + 1 : Nat) : Int) = e + 1 := by have := z_Sound_c h; omega
theorem z_Sound_T2 {e : Int} (h : z_isSound e) : z_T (e.toNat + 2) = .inr (0, 0, 3, 0, 0) := by
  obtain ⟨j, h1, h2⟩ := z_Sound_ix h
  rw [h2]
  exact (z_Sound_all j h1).2.2.1
theorem z_Sound_lt2 {e : Int} (h : z_isSound e) : e.toNat + 2 < z_N := by unfold z_N; omega
theorem z_Sound_c2 {e : Int} (h : z_isSound e) : ((e.toNat + 2 : Nat) : Int) = e + 2 := by have := z_Sound_c h; omega
theorem z_Sound_T3 {e : Int} (h : z_isSound e) : z_T (e.toNat + 3) = .inr (0, 0, 3, 0, 0) := by
  obtain ⟨j, h1, h2⟩ := z_Sound_ix h
  rw [h2]
  exact (z_Sound_all j h1).2.2.2.1
theorem z_Sound_lt3 {e : Int} (h : z_isSound e) : e.toNat + 3 < z_N := by unfold z_N; omega
theorem z_Sound_c3 {e : Int} (h : z_isSound e) : ((e.toNat + 3 : Nat) : Int) = e + 3 := by have := z_Sound_c h; omega
theorem z_Sound_T4 {e : Int} (h : z_isSound e) : z_T (e.toNat + 4) = .inr (0, 0, 3, 0, 0) := by
  obtain ⟨j, h1, h2⟩ := z_Sound_ix h
  rw [h2]
  exact (z_Sound_all j h1).2.2.2.2
theorem z_Sound_lt4 {e : Int} (h : z_isSound e) : e.toNat + 4 < z_N := by unfold z_N; omega
theorem z_Sound_c4 {e : Int} (h : z_isSound e) : ((e.toNat + 4 : Nat) : Int) = e + 4 := by have := z_Sound_c h; omega
abbrev z_isSaying (e : Int) : Prop := 59 ≤ e ∧ e ≤ 86 ∧ (e - 59) % 3 = 0
theorem z_Saying_of {i : Int} (h : 0 ≤ i ∧ i < 10) : z_isSaying (59 + 3 * i) := ⟨by omega, by omega, by omega⟩
theorem z_Saying_all : ∀ j, j < 10 → z_T (59 + 3 * j) = .inl (7, [(4, 1), (4, 2), (0, 0), (0, 0)]) ∧ z_T (59 + 3 * j + 1) = .inr (0, 0, 4, 0, 0) ∧ z_T (59 + 3 * j + 2) = .inr (0, 0, 4, 0, 0) := fun j hj => match j, hj with
  | 0, _ => ⟨rfl, rfl, rfl⟩
  | 1, _ => ⟨rfl, rfl, rfl⟩
  | 2, _ => ⟨rfl, rfl, rfl⟩
  | 3, _ => ⟨rfl, rfl, rfl⟩
  | 4, _ => ⟨rfl, rfl, rfl⟩
  | 5, _ => ⟨rfl, rfl, rfl⟩
  | 6, _ => ⟨rfl, rfl, rfl⟩
  | 7, _ => ⟨rfl, rfl, rfl⟩
  | 8, _ => ⟨rfl, rfl, rfl⟩
  | 9, _ => ⟨rfl, rfl, rfl⟩
  | _ + 10, h => absurd h (by omega)
theorem z_Saying_ix {e : Int} (h : z_isSaying e) : ∃ j : Nat, j < 10 ∧ e.toNat = 59 + 3 * j := by
  obtain ⟨h1, h2, h3⟩ := h
  refine ⟨((e - 59) / 3).toNat, ?_, ?_⟩ <;> omega
theorem z_Saying_c {e : Int} (h : z_isSaying e) : ((e.toNat : Nat) : Int) = e := Int.toNat_of_nonneg (by omega)
theorem z_Saying_lt {e : Int} (h : z_isSaying e) : e.toNat < z_N := by unfold z_N; omega
theorem z_Saying_T {e : Int} (h : z_isSaying e) : z_T (e.toNat) = .inl (7, [(4, 1), (4, 2), (0, 0), (0, 0)]) := by
  obtain ⟨j, h1, h2⟩ := z_Saying_ix h
  rw [h2]
  exact (z_Saying_all j h1).1
theorem z_Saying_T1 {e : Int} (h : z_isSaying e) : z_T (e.toNat + 1) = .inr (0, 0, 4, 0, 0) := by
  obtain ⟨j, h1, h2⟩ := z_Saying_ix h
  rw [h2]
  exact (z_Saying_all j h1).2.1
theorem z_Saying_lt1 {e : Int} (h : z_isSaying e) : e.toNat + 1 < z_N := by unfold z_N; omega
theorem z_Saying_c1 {e : Int} (h : z_isSaying e) : ((e.toNat + 1 : Nat) : Int) = e + 1 := by have := z_Saying_c h; omega
theorem z_Saying_T2 {e : Int} (h : z_isSaying e) : z_T (e.toNat + 2) = .inr (0, 0, 4, 0, 0) := by
  obtain ⟨j, h1, h2⟩ := z_Saying_ix h
  rw [h2]
  exact (z_Saying_all j h1).2.2
theorem z_Saying_lt2 {e : Int} (h : z_isSaying e) : e.toNat + 2 < z_N := by unfold z_N; omega
theorem z_Saying_c2 {e : Int} (h : z_isSaying e) : ((e.toNat + 2 : Nat) : Int) = e + 2 := by have := z_Saying_c h; omega
abbrev z_isRW (e : Int) : Prop := e = 158 ∨ e = 160
theorem z_RW_c {e : Int} (h : z_isRW e) : ((e.toNat : Nat) : Int) = e := Int.toNat_of_nonneg (by omega)
theorem z_RW_lt {e : Int} (h : z_isRW e) : e.toNat < z_N := by unfold z_N; omega
theorem z_RW_T {e : Int} (h : z_isRW e) : z_T e.toNat = .inl (6, [(4, 1), (0, 0)]) := by rcases h with rfl | rfl <;> rfl
theorem z_RW_T1 {e : Int} (h : z_isRW e) : z_T (e.toNat + 1) = .inr (0, 0, 4, 0, 0) := by rcases h with rfl | rfl <;> rfl
theorem z_RW_lt1 {e : Int} (h : z_isRW e) : e.toNat + 1 < z_N := by unfold z_N; omega
theorem z_RW_c1 {e : Int} (h : z_isRW e) : ((e.toNat + 1 : Nat) : Int) = e + 1 := by have := z_RW_c h; omega
theorem z_ord_T {e : Int} (h : e = 138 ∨ e = 139) : z_T e.toNat = .inr (0, 0, 780, 0, 0) := by rcases h with h | h <;> rw [h] <;> rfl
theorem z_ord_lt {e : Int} (h : e = 138 ∨ e = 139) : e.toNat < z_N := by unfold z_N; omega
theorem z_ord_c {e : Int} (h : e = 138 ∨ e = 139) : ((e.toNat : Nat) : Int) = e := Int.toNat_of_nonneg (by omega)
theorem z_ord_0 {e : Int} (h : e = 138 ∨ e = 139) : 0 ≤ e := by omega
def z_isArr (e : Int) (k t n : Nat) : Prop := 0 ≤ e ∧ e.toNat < z_N ∧ z_T e.toNat = .inr (k, t, n, 0, 0)
theorem z_isArr_of {b n k t m : Nat} {i : Int} (hb : b + n ≤ z_N) (h : ∀ j, j < n → z_T (b + j) = .inr (k, t, m, 0, 0)) (hi : 0 ≤ i ∧ i < n) : z_isArr ((b : Int) + i) k t m := by
  have e : ((b : Int) + i).toNat = b + i.toNat := by omega
  refine ⟨by omega, by omega, ?_⟩
  rw [e]
  exact h _ (by omega)
theorem z_isArr_nat {k t n i : Nat} {e : Int} (hk : ((i : Nat) : Int) = e) (h : i < z_N) (hT : z_T i = .inr (k, t, n, 0, 0)) : z_isArr e k t n := by
  subst hk
  exact ⟨by omega, by rw [Int.toNat_natCast]; exact h, by rw [Int.toNat_natCast]; exact hT⟩
theorem z_isArr_lit {k t n i : Nat} (h : i < z_N) (hT : z_T i = .inr (k, t, n, 0, 0)) : z_isArr (i : Int) k t n := ⟨by omega, by rw [Int.toNat_natCast]; exact h, by rw [Int.toNat_natCast]; exact hT⟩
def z_cpy (st : z_St) (src dst n : Int) : z_St := fun x y => if x = dst ∧ 0 ≤ y ∧ y < n then st src y else st x y
def z_xl {α β : Type} (x : Option (z_R α)) (g : (Nat × z_St) → Option β) (f : α → Option β) : Option β := match x with
  | none => none
  | some (.inl v) => f v
  | some (.inr q) => g q
theorem z_xl_cases {α β : Type} {x : Option (z_R α)} {g : (Nat × z_St) → Option β} {f : α → Option β} {r : β} (h : z_xl x g f = some r) : (∃ v, x = some (.inl v) ∧ f v = some r) ∨ (∃ q, x = some (.inr q) ∧ g q = some r) := by
  cases x with
  | none => cases h
  | some y => cases y with
    | inl v => exact Or.inl ⟨v, rfl, h⟩
    | inr q => exact Or.inr ⟨q, rfl, h⟩
abbrev z_lxor : Int → Int → Int := z_lop (fun x y => x ^^^ y)
theorem zk_math : Cond.initialized "java/lang/Math" ∈ z_tbl := z_t1 21 rfl rfl
theorem zI_nle {x y : Int} (h1 : z32 x) (h2 : z32 y) (h : x < y) : ¬ zI y ≤ zI x := fun q => by have := (zI_le h2 h1).mp q; omega
theorem zJ_nle {x y : Int} (h1 : z64 x) (h2 : z64 y) (h : x < y) : ¬ zJ y ≤ zJ x := fun q => by have := (zJ_le h2 h1).mp q; omega
theorem zJ_nlt {x y : Int} (h1 : z64 x) (h2 : z64 y) (h : x < y) : ¬ zJ y < zJ x := fun q => by have := (zJ_lt h2 h1).mp q; omega
theorem zI_nlt {x y : Int} (h1 : z32 x) (h2 : z32 y) (h : x < y) : ¬ zI y < zI x := fun q => by have := (zI_lt h2 h1).mp q; omega
section
variable {κ : zK} {own : String} {cc : ByteArray} {n lam mc ms : Nat} {T : Nat → z_Ty} {N : Nat} {a : Nat → Nat} {cells slots pc : Nat} {L : List (Nat × Value)} {S : List Value} {st : z_St}
theorem z_ldc {i : Nat} {v : Int32} (x : Int) (hc : z_C κ own cc n lam mc ms) (hw : Cond.constant own i v ∈ z_tbl) (hd : decode cc pc = .ok (.ldc i, 2)) (hv : v = zI x) (kk : z_V κ T N a cells slots (pc + 2) L (.int (zI x) :: S) st) : z_V κ T N a cells slots pc L S st := by
  obtain ⟨p, l, e, R, s, m, args, below, meth, c, Q, A, D, cA, nL⟩ := κ
  obtain ⟨hx, hb, hml, hn, hown, hts, hlk, hK, hA, hfr, hlo, hce, hsl, hX9, htr⟩ := hc
  intro H locs ls hP hS hl
  subst hv
  exact lv_ldc hx hb hown (hts _ hw) hd (kk H locs ls hP hS hl)
theorem z_lxor_r {x y : Int} (hc : z_C κ own cc n lam mc ms) (hd : decode cc pc = .ok (.lxor, 1)) (kk : z_V κ T N a cells slots (pc + 1) L (.long (zJ (z_lxor x y)) :: S) st) : z_V κ T N a cells slots pc L (.long (zJ y) :: .long (zJ x) :: S) st := by
  obtain ⟨p, l, e, R, s, m, args, below, meth, c, Q, A, D, cA, nL⟩ := κ
  obtain ⟨hx, hb, hml, hn, hown, hts, hlk, hK, hA, hfr, hlo, hce, hsl, hX9, htr⟩ := hc
  intro H locs ls hP hS hl
  refine lv_lxor hx hb hd ?_
  rw [show zJ x ^^^ zJ y = zJ (z_lxor x y) from zJ_of _]
  exact kk H locs ls hP hS hl
theorem z_swIn {dflt lo hi : Int} {offs : Array Int} {len : Nat} {x off : Int} {tgt : Nat} (hc : z_C κ own cc n lam mc ms) (hx32 : z32 x) (hd : decode cc pc = .ok (.tableswitch dflt lo hi offs, len)) (h1 : lo ≤ x) (h2 : x ≤ hi) (ho : offs[(x - lo).toNat]? = some off) (ht : (pc : Int) + off = (tgt : Int)) (kk : z_V κ T N a cells slots tgt L S st) : z_V κ T N a cells slots pc L (.int (zI x) :: S) st := by
  obtain ⟨p, l, e, R, s, m, args, below, meth, c, Q, A, D, cA, nL⟩ := κ
  obtain ⟨hx, hb, hml, hn, hown, hts, hlk, hK, hA, hfr, hlo, hce, hsl, hX9, htr⟩ := hc
  intro H locs ls hP hS hl
  have e := zI_toInt hx32
  exact lv_tableIn hx hb hd (by rw [e]; omega) (by rw [e]; omega) (by rw [e]; exact ho) ht (kk H locs ls hP hS hl)
theorem z_swOut {dflt lo hi : Int} {offs : Array Int} {len : Nat} {x : Int} {tgt : Nat} (hc : z_C κ own cc n lam mc ms) (hx32 : z32 x) (hd : decode cc pc = .ok (.tableswitch dflt lo hi offs, len)) (h : x < lo ∨ hi < x) (ht : (pc : Int) + dflt = (tgt : Int)) (kk : z_V κ T N a cells slots tgt L S st) : z_V κ T N a cells slots pc L (.int (zI x) :: S) st := by
  obtain ⟨p, l, e, R, s, m, args, below, meth, c, Q, A, D, cA, nL⟩ := κ
  obtain ⟨hx, hb, hml, hn, hown, hts, hlk, hK, hA, hfr, hlo, hce, hsl, hX9, htr⟩ := hc
  intro H locs ls hP hS hl
  have e := zI_toInt hx32
  exact lv_tableOut hx hb hd (by rw [e]; exact h) ht (kk H locs ls hP hS hl)

theorem zk_minJ_1 : Cond.static Lib.MathLoose.min_long.x ∈ z_tbl := z_t3 166 rfl rfl
theorem zk_minJ_2 : Cond.code Lib.MathLoose.min_long.x Lib.MathLoose.min_long.code 4 (some .long) ∈ z_tbl := z_t3 167 rfl rfl
theorem z_minJ {α : Type} {X : Option α} {o : α} {x y : Int} {idx : Nat} (hc : z_C κ own cc n lam mc ms) (hlk9 : Cond.methodLink own idx Lib.MathLoose.min_long.x ∈ z_tbl) (h : z_g (z64 x ∧ z64 y) X = some o) (hW : cells = 0 ∧ slots = 0 ∧ (S.map fun v => v.category).sum ≤ 8 ∧ 1 ≤ lam) (hd : decode cc pc = .ok (.invokestatic idx, 3)) (kk : X = some o → z_V κ T N a cells slots (pc + 3) L (.long (zJ (min x y)) :: S) st) : z_V κ T N a cells slots pc L (.long (zJ y) :: .long (zJ x) :: S) st := by
  obtain ⟨p, l, e, R, s, m, args, below, meth, c, Q, A, D, cA, nL⟩ := κ
  obtain ⟨hx, hb, hml, hn, hown, hts, hlk, hK, hA, hfr, hlo, hce, hsl, hX9, htr⟩ := hc
  intro H locs ls hP hS hl
  obtain ⟨⟨h1, h2⟩, h⟩ := z_g_some h
  obtain ⟨w1, w2, w3, w4⟩ := hW
  subst w1 w2
  refine va_mmin_long hx hb (by rw [hml, hl.1]) hown (hts _ hlk9) (hts _ zk_minJ_1) (hts _ zk_math) (hts _ zk_minJ_2) (by omega) (by omega) (Nat.zero_le _) (Nat.zero_le _) hd ?_
  have e := zJ_lt h2 h1
  have kk := kk h H locs ls hP hS hl
  by_cases q : y < x
  · rw [if_pos (e.mpr q)]; rw [show min x y = y by omega] at kk; exact kk
  · rw [if_neg (fun z => q (e.mp z))]; rw [show min x y = x by omega] at kk; exact kk

theorem zk_maxJ_1 : Cond.static Lib.MathLoose.max_long.x ∈ z_tbl := z_t5 0 rfl rfl
theorem zk_maxJ_2 : Cond.code Lib.MathLoose.max_long.x Lib.MathLoose.max_long.code 4 (some .long) ∈ z_tbl := z_t5 1 rfl rfl
theorem z_maxJ {α : Type} {X : Option α} {o : α} {x y : Int} {idx : Nat} (hc : z_C κ own cc n lam mc ms) (hlk9 : Cond.methodLink own idx Lib.MathLoose.max_long.x ∈ z_tbl) (h : z_g (z64 x ∧ z64 y) X = some o) (hW : cells = 0 ∧ slots = 0 ∧ (S.map fun v => v.category).sum ≤ 8 ∧ 1 ≤ lam) (hd : decode cc pc = .ok (.invokestatic idx, 3)) (kk : X = some o → z_V κ T N a cells slots (pc + 3) L (.long (zJ (max x y)) :: S) st) : z_V κ T N a cells slots pc L (.long (zJ y) :: .long (zJ x) :: S) st := by
  obtain ⟨p, l, e, R, s, m, args, below, meth, c, Q, A, D, cA, nL⟩ := κ
  obtain ⟨hx, hb, hml, hn, hown, hts, hlk, hK, hA, hfr, hlo, hce, hsl, hX9, htr⟩ := hc
  intro H locs ls hP hS hl
  obtain ⟨⟨h1, h2⟩, h⟩ := z_g_some h
  obtain ⟨w1, w2, w3, w4⟩ := hW
  subst w1 w2
  refine va_mmax_long hx hb (by rw [hml, hl.1]) hown (hts _ hlk9) (hts _ zk_maxJ_1) (hts _ zk_math) (hts _ zk_maxJ_2) (by omega) (by omega) (Nat.zero_le _) (Nat.zero_le _) hd ?_
  have e := zJ_lt h2 h1
  have kk := kk h H locs ls hP hS hl
  by_cases q : y < x
  · rw [if_pos (e.mpr q)]; rw [show max x y = x by omega] at kk; exact kk
  · rw [if_neg (fun z => q (e.mp z))]; rw [show max x y = y by omega] at kk; exact kk

theorem zk_minI_1 : Cond.static Lib.Math.min.name ∈ z_tbl := z_t4 46 rfl rfl
theorem zk_minI_2 : Cond.code Lib.Math.min.name Lib.Math.min.code 2 (some .int) ∈ z_tbl := z_t4 47 rfl rfl
theorem z_minI {α : Type} {X : Option α} {o : α} {x y : Int} {idx : Nat} (hc : z_C κ own cc n lam mc ms) (hlk9 : Cond.methodLink own idx Lib.Math.min.name ∈ z_tbl) (h : z_g (z32 x ∧ z32 y) X = some o) (hW : cells = 0 ∧ slots = 0 ∧ (S.map fun v => v.category).sum ≤ 8 ∧ 1 ≤ lam) (hd : decode cc pc = .ok (.invokestatic idx, 3)) (kk : X = some o → z_V κ T N a cells slots (pc + 3) L (.int (zI (min x y)) :: S) st) : z_V κ T N a cells slots pc L (.int (zI y) :: .int (zI x) :: S) st := by
  obtain ⟨p, l, e, R, s, m, args, below, meth, c, Q, A, D, cA, nL⟩ := κ
  obtain ⟨hx, hb, hml, hn, hown, hts, hlk, hK, hA, hfr, hlo, hce, hsl, hX9, htr⟩ := hc
  intro H locs ls hP hS hl
  obtain ⟨⟨h1, h2⟩, h⟩ := z_g_some h
  obtain ⟨w1, w2, w3, w4⟩ := hW
  subst w1 w2
  refine va_mmin hx hb (by rw [hml, hl.1]) hown (hts _ hlk9) (hts _ zk_minI_1) (hts _ zk_math) (hts _ zk_minI_2) (by omega) (by omega) (Nat.zero_le _) (Nat.zero_le _) hd ?_
  have e := zI_lt h2 h1
  have kk := kk h H locs ls hP hS hl
  by_cases q : y < x
  · rw [if_pos (e.mpr q)]; rw [show min x y = y by omega] at kk; exact kk
  · rw [if_neg (fun z => q (e.mp z))]; rw [show min x y = x by omega] at kk; exact kk

theorem zk_ac1 : Cond.native arraycopyName ∈ z_tbl := z_t3 95 rfl rfl
theorem zk_ac2 : Cond.static arraycopyName ∈ z_tbl := z_t3 94 rfl rfl
theorem zk_ac3 : Cond.initialized "java/lang/System" ∈ z_tbl := z_t1 19 rfl rfl
theorem z_copyI {α : Type} {F : z_St → Option α} {o : α} {k k1 n0 n1 idx : Nat} {kI k1I x n0I n1I : Int} (hc : z_C κ own cc n lam mc ms) (hap : z_AP κ a N) (hlk9 : Cond.methodLink own idx arraycopyName ∈ z_tbl) (hT : T k = .inr (0, 0, n0, 0, 0)) (hk : k < N) (hkI : (k : Int) = kI) (hT1 : T k1 = .inr (0, 0, n1, 0, 0)) (hk1 : k1 < N) (hk1I : (k1 : Int) = k1I) (hn0 : (n0 : Int) = n0I) (hn1 : (n1 : Int) = n1I) (hb0 : n0 < 2147483648) (hb1 : n1 < 2147483648) (hW : (S.map fun v => v.category).sum ≤ 8 ∧ 8 ≤ lam) (hd : decode cc pc = .ok (.invokestatic idx, 3)) (h : z_g (0 ≤ x ∧ x ≤ n0I ∧ x ≤ n1I) (z_let (z_cpy st kI k1I x) F) = some o) (kk : ∀ st, F st = some o → z_V κ T N a cells slots (pc + 3) L S st) : z_V κ T N a cells slots pc L (.int (zI x) :: .int (zI 0) :: .ref (a k1) :: .int (zI 0) :: .ref (a k) :: S) st := by
  obtain ⟨p, l, e, R, s, m, args, below, meth, c, Q, A, D, cA, nL⟩ := κ
  obtain ⟨hx, hb, hml, hn, hown, hts, hlk, hK, hA, hfr, hlo, hce, hsl, hX9, htr⟩ := hc
  intro H locs ls hP hS hl
  subst hkI hk1I hn0 hn1
  obtain ⟨⟨g0, g1, g2⟩, h⟩ := z_g_some h
  obtain ⟨hinj, hAk⟩ := hap
  have hw := z_ws_get (cA := cA) (T := T) (a := a) (st := st) hk
  rw [hT] at hw
  have hw1 := z_ws_get (cA := cA) (T := T) (a := a) (st := st) hk1
  rw [hT1] at hw1
  have hD : va_D A (z_ws cA T a N st) := (z_D (sz := s.heap.size) hinj).weaken (fun k9 q9 h9 _ => by obtain ⟨h1, rfl⟩ := z_ws_inv h9; exact hAk _ h1)
  have hz0 : (zI 0).toNatClampNeg = 0 := by decide
  have hzx : (zI x).toNatClampNeg = x.toNat := zI_cl g0 (by omega)
  have hnf : nativeFrameWords "java/lang/System" "arraycopy" 5 + 11 ≤ 100 := by decide +kernel
  have hnx : ¬ zI x < 0 := fun q => by have := (zI_lt (x := x) (y := 0) ⟨by omega, by omega⟩ ⟨by decide, by decide⟩).mp q; omega
  have ef : va_cpy (fun j : Nat => zI (st k j)) (fun j : Nat => zI (st k1 j)) (zI 0).toNatClampNeg (zI 0).toNatClampNeg (zI x).toNatClampNeg = fun j : Nat => zI (z_cpy st k k1 x k1 j) := by
    funext j
    rw [hz0, hzx]
    unfold va_cpy z_cpy
    by_cases q : j < x.toNat
    · rw [if_pos ⟨Nat.zero_le _, by omega⟩, if_pos ⟨rfl, by omega, by omega⟩]
      simp
    · rw [if_neg (by omega), if_neg (by omega)]
  refine va_copyi (ty := .int) (n0 := n0) (n1 := n1) hx hb (by rw [hml, hl.1]) hown (hts _ hlk9) (hts _ zk_ac1) (hts _ zk_ac2) (hts _ zk_ac3) hK hP hD hS k k1 0 0 hw hw1 rfl rfl rfl (by decide) (by decide) hnx (by rw [hz0, hzx]; omega) (by rw [hz0, hzx]; omega) (fun i _ => rfl) (by omega) (by omega) hd (fun H1 locs1 hP1 _ hS1 => ?_)
  rw [z_ws_set (st' := z_cpy st k k1 x) hk1 (by rw [ef, hT1]; rfl) (fun k9 h9 => by funext y9; unfold z_cpy; rw [if_neg (by omega)])] at hP1
  exact kk _ h H1 locs1 ls hP1 hS1 hl

end
theorem win_X0 : ∀ w ∈ u_ws RX0 TX0 5, w ∈ z_tbl := by
  show ∀ w ∈ [u_lay RX0 TX0 0, u_lay RX0 TX0 1, u_lay RX0 TX0 2, u_lay RX0 TX0 3, u_lay RX0 TX0 4], w ∈ z_tbl
  exact List.forall_mem_cons.mpr ⟨z_t1 206 rfl rfl, List.forall_mem_cons.mpr ⟨z_t1 208 rfl rfl, List.forall_mem_cons.mpr ⟨z_t1 210 rfl rfl, List.forall_mem_cons.mpr ⟨z_t1 212 rfl rfl, List.forall_mem_cons.mpr ⟨z_t1 214 rfl rfl, fun _ h => absurd h List.not_mem_nil⟩⟩⟩⟩⟩
theorem fc_X0 : z_FC 0 := ⟨(RX0, TX0, 5), tyX0, rfl, tyX0_ok, nmX0⟩
theorem win_X1 : ∀ w ∈ u_ws RX1 TX1 4, w ∈ z_tbl := by
  show ∀ w ∈ [u_lay RX1 TX1 0, u_lay RX1 TX1 1, u_lay RX1 TX1 2, u_lay RX1 TX1 3], w ∈ z_tbl
  exact List.forall_mem_cons.mpr ⟨z_t1 47 rfl rfl, List.forall_mem_cons.mpr ⟨z_t1 49 rfl rfl, List.forall_mem_cons.mpr ⟨z_t1 51 rfl rfl, List.forall_mem_cons.mpr ⟨z_t1 53 rfl rfl, fun _ h => absurd h List.not_mem_nil⟩⟩⟩⟩
theorem fc_X1 : z_FC 1 := ⟨(RX1, TX1, 4), tyX1, rfl, tyX1_ok, nmX1⟩
theorem win_X2 : ∀ w ∈ u_ws RX2 TX2 6, w ∈ z_tbl := by
  show ∀ w ∈ [u_lay RX2 TX2 0, u_lay RX2 TX2 1, u_lay RX2 TX2 2, u_lay RX2 TX2 3, u_lay RX2 TX2 4, u_lay RX2 TX2 5], w ∈ z_tbl
  exact List.forall_mem_cons.mpr ⟨z_t1 177 rfl rfl, List.forall_mem_cons.mpr ⟨z_t1 179 rfl rfl, List.forall_mem_cons.mpr ⟨z_t1 181 rfl rfl, List.forall_mem_cons.mpr ⟨z_t1 183 rfl rfl, List.forall_mem_cons.mpr ⟨z_t1 185 rfl rfl, List.forall_mem_cons.mpr ⟨z_t1 187 rfl rfl, fun _ h => absurd h List.not_mem_nil⟩⟩⟩⟩⟩⟩
theorem fc_X2 : z_FC 2 := ⟨(RX2, TX2, 6), tyX2, rfl, tyX2_ok, nmX2⟩
theorem win_X3 : ∀ w ∈ u_ws RX3 TX3 6, w ∈ z_tbl := by
  show ∀ w ∈ [u_lay RX3 TX3 0, u_lay RX3 TX3 1, u_lay RX3 TX3 2, u_lay RX3 TX3 3, u_lay RX3 TX3 4, u_lay RX3 TX3 5], w ∈ z_tbl
  exact List.forall_mem_cons.mpr ⟨z_t2 63 rfl rfl, List.forall_mem_cons.mpr ⟨z_t2 65 rfl rfl, List.forall_mem_cons.mpr ⟨z_t2 67 rfl rfl, List.forall_mem_cons.mpr ⟨z_t2 69 rfl rfl, List.forall_mem_cons.mpr ⟨z_t2 71 rfl rfl, List.forall_mem_cons.mpr ⟨z_t2 73 rfl rfl, fun _ h => absurd h List.not_mem_nil⟩⟩⟩⟩⟩⟩
theorem fc_X3 : z_FC 3 := ⟨(RX3, TX3, 6), tyX3, rfl, tyX3_ok, nmX3⟩
theorem win_X4 : ∀ w ∈ u_ws RX4 TX4 7, w ∈ z_tbl := by
  show ∀ w ∈ [u_lay RX4 TX4 0, u_lay RX4 TX4 1, u_lay RX4 TX4 2, u_lay RX4 TX4 3, u_lay RX4 TX4 4, u_lay RX4 TX4 5, u_lay RX4 TX4 6], w ∈ z_tbl
  exact List.forall_mem_cons.mpr ⟨z_t1 145 rfl rfl, List.forall_mem_cons.mpr ⟨z_t1 147 rfl rfl, List.forall_mem_cons.mpr ⟨z_t1 149 rfl rfl, List.forall_mem_cons.mpr ⟨z_t1 151 rfl rfl, List.forall_mem_cons.mpr ⟨z_t1 153 rfl rfl, List.forall_mem_cons.mpr ⟨z_t1 155 rfl rfl, List.forall_mem_cons.mpr ⟨z_t1 157 rfl rfl, fun _ h => absurd h List.not_mem_nil⟩⟩⟩⟩⟩⟩⟩
theorem fc_X4 : z_FC 4 := ⟨(RX4, TX4, 7), tyX4, rfl, tyX4_ok, nmX4⟩
theorem win_X5 : ∀ w ∈ u_ws RX5 TX5 11, w ∈ z_tbl := by
  show ∀ w ∈ [u_lay RX5 TX5 0, u_lay RX5 TX5 1, u_lay RX5 TX5 2, u_lay RX5 TX5 3, u_lay RX5 TX5 4, u_lay RX5 TX5 5, u_lay RX5 TX5 6, u_lay RX5 TX5 7, u_lay RX5 TX5 8, u_lay RX5 TX5 9, u_lay RX5 TX5 10], w ∈ z_tbl
  exact List.forall_mem_cons.mpr ⟨z_t1 237 rfl rfl, List.forall_mem_cons.mpr ⟨z_t1 239 rfl rfl, List.forall_mem_cons.mpr ⟨z_t2 1 rfl rfl, List.forall_mem_cons.mpr ⟨z_t2 3 rfl rfl, List.forall_mem_cons.mpr ⟨z_t2 5 rfl rfl, List.forall_mem_cons.mpr ⟨z_t2 7 rfl rfl, List.forall_mem_cons.mpr ⟨z_t2 9 rfl rfl, List.forall_mem_cons.mpr ⟨z_t2 11 rfl rfl, List.forall_mem_cons.mpr ⟨z_t2 13 rfl rfl, List.forall_mem_cons.mpr ⟨z_t2 15 rfl rfl, List.forall_mem_cons.mpr ⟨z_t2 17 rfl rfl, fun _ h => absurd h List.not_mem_nil⟩⟩⟩⟩⟩⟩⟩⟩⟩⟩⟩
theorem fc_X5 : z_FC 5 := ⟨(RX5, TX5, 11), tyX5, rfl, tyX5_ok, nmX5⟩
theorem win_X6 : ∀ w ∈ u_ws RX6 TX6 2, w ∈ z_tbl := by
  show ∀ w ∈ [u_lay RX6 TX6 0, u_lay RX6 TX6 1], w ∈ z_tbl
  exact List.forall_mem_cons.mpr ⟨z_t2 108 rfl rfl, List.forall_mem_cons.mpr ⟨z_t2 110 rfl rfl, fun _ h => absurd h List.not_mem_nil⟩⟩
theorem fc_X6 : z_FC 6 := ⟨(RX6, TX6, 2), tyX6, rfl, tyX6_ok, nmX6⟩
theorem win_X7 : ∀ w ∈ u_ws RX7 TX7 4, w ∈ z_tbl := by
  show ∀ w ∈ [u_lay RX7 TX7 0, u_lay RX7 TX7 1, u_lay RX7 TX7 2, u_lay RX7 TX7 3], w ∈ z_tbl
  exact List.forall_mem_cons.mpr ⟨z_t1 118 rfl rfl, List.forall_mem_cons.mpr ⟨z_t1 120 rfl rfl, List.forall_mem_cons.mpr ⟨z_t1 122 rfl rfl, List.forall_mem_cons.mpr ⟨z_t1 124 rfl rfl, fun _ h => absurd h List.not_mem_nil⟩⟩⟩⟩
theorem fc_X7 : z_FC 7 := ⟨(RX7, TX7, 4), tyX7, rfl, tyX7_ok, nmX7⟩
theorem win_X8 : ∀ w ∈ u_ws RX8 TX8 6, w ∈ z_tbl := by
  show ∀ w ∈ [u_lay RX8 TX8 0, u_lay RX8 TX8 1, u_lay RX8 TX8 2, u_lay RX8 TX8 3, u_lay RX8 TX8 4, u_lay RX8 TX8 5], w ∈ z_tbl
  exact List.forall_mem_cons.mpr ⟨z_t2 36 rfl rfl, List.forall_mem_cons.mpr ⟨z_t2 38 rfl rfl, List.forall_mem_cons.mpr ⟨z_t2 40 rfl rfl, List.forall_mem_cons.mpr ⟨z_t2 42 rfl rfl, List.forall_mem_cons.mpr ⟨z_t2 44 rfl rfl, List.forall_mem_cons.mpr ⟨z_t2 46 rfl rfl, fun _ h => absurd h List.not_mem_nil⟩⟩⟩⟩⟩⟩
theorem fc_X8 : z_FC 8 := ⟨(RX8, TX8, 6), tyX8, rfl, tyX8_ok, nmX8⟩
theorem win_X9 : ∀ w ∈ u_ws RX9 TX9 6, w ∈ z_tbl := by
  show ∀ w ∈ [u_lay RX9 TX9 0, u_lay RX9 TX9 1, u_lay RX9 TX9 2, u_lay RX9 TX9 3, u_lay RX9 TX9 4, u_lay RX9 TX9 5], w ∈ z_tbl
  exact List.forall_mem_cons.mpr ⟨z_t1 83 rfl rfl, List.forall_mem_cons.mpr ⟨z_t1 85 rfl rfl, List.forall_mem_cons.mpr ⟨z_t1 87 rfl rfl, List.forall_mem_cons.mpr ⟨z_t1 89 rfl rfl, List.forall_mem_cons.mpr ⟨z_t1 91 rfl rfl, List.forall_mem_cons.mpr ⟨z_t1 93 rfl rfl, fun _ h => absurd h List.not_mem_nil⟩⟩⟩⟩⟩⟩
theorem fc_X9 : z_FC 9 := ⟨(RX9, TX9, 6), tyX9, rfl, tyX9_ok, nmX9⟩
theorem win_X10 : ∀ w ∈ u_ws RX10 TX10 4, w ∈ z_tbl := by
  show ∀ w ∈ [u_lay RX10 TX10 0, u_lay RX10 TX10 1, u_lay RX10 TX10 2, u_lay RX10 TX10 3], w ∈ z_tbl
  exact List.forall_mem_cons.mpr ⟨z_t2 89 rfl rfl, List.forall_mem_cons.mpr ⟨z_t2 91 rfl rfl, List.forall_mem_cons.mpr ⟨z_t2 93 rfl rfl, List.forall_mem_cons.mpr ⟨z_t2 95 rfl rfl, fun _ h => absurd h List.not_mem_nil⟩⟩⟩⟩
theorem fc_X10 : z_FC 10 := ⟨(RX10, TX10, 4), tyX10, rfl, tyX10_ok, nmX10⟩
theorem win_X11 : ∀ w ∈ u_ws RX11 TX11 11, w ∈ z_tbl := by
  show ∀ w ∈ [u_lay RX11 TX11 0, u_lay RX11 TX11 1, u_lay RX11 TX11 2, u_lay RX11 TX11 3, u_lay RX11 TX11 4, u_lay RX11 TX11 5, u_lay RX11 TX11 6, u_lay RX11 TX11 7, u_lay RX11 TX11 8, u_lay RX11 TX11 9, u_lay RX11 TX11 10], w ∈ z_tbl
  exact List.forall_mem_cons.mpr ⟨z_t2 125 rfl rfl, List.forall_mem_cons.mpr ⟨z_t2 127 rfl rfl, List.forall_mem_cons.mpr ⟨z_t2 129 rfl rfl, List.forall_mem_cons.mpr ⟨z_t2 131 rfl rfl, List.forall_mem_cons.mpr ⟨z_t2 133 rfl rfl, List.forall_mem_cons.mpr ⟨z_t2 135 rfl rfl, List.forall_mem_cons.mpr ⟨z_t2 137 rfl rfl, List.forall_mem_cons.mpr ⟨z_t2 139 rfl rfl, List.forall_mem_cons.mpr ⟨z_t2 141 rfl rfl, List.forall_mem_cons.mpr ⟨z_t2 143 rfl rfl, List.forall_mem_cons.mpr ⟨z_t2 145 rfl rfl, fun _ h => absurd h List.not_mem_nil⟩⟩⟩⟩⟩⟩⟩⟩⟩⟩⟩
theorem fc_X11 : z_FC 11 := ⟨(RX11, TX11, 11), tyX11, rfl, tyX11_ok, nmX11⟩
theorem tT_99 : z_T 99 = .inl (0, [(4, 1), (4, 26), (4, 27), (4, 34), (2, 0)]) := rfl
theorem fl_RX0_16 : z_FL RX0 16 0 1 := ⟨(RX0, TX0, 5), rfl, by decide, win_X0, z_t1 201 rfl rfl, rfl⟩
theorem tT_125 : z_T 125 = .inr (1, 1, 1445, 0, 0) := rfl
theorem fl_RX0_20 : z_FL RX0 20 0 2 := ⟨(RX0, TX0, 5), rfl, by decide, win_X0, z_t1 202 rfl rfl, rfl⟩
theorem tT_126 : z_T 126 = .inr (4, 4, 6, 1, 1) := rfl
theorem z_row_126 {i : Int} (h : 0 ≤ i ∧ i < 6) : z_isArr (127 + i) 1 1 6 := z_isArr_of (b := 127) (n := 6) (by decide) (fun j hj => match j, hj with | 0, _ => rfl | 1, _ => rfl | 2, _ => rfl | 3, _ => rfl | 4, _ => rfl | 5, _ => rfl | _ + 6, h => absurd h (by omega)) h
theorem tT_1 : z_T 1 = .inl (1, [(4, 1), (4, 18), (0, 0), (0, 0)]) := rfl
theorem fl_RX1_11 : z_FL RX1 11 1 0 := ⟨(RX1, TX1, 4), rfl, by decide, win_X1, z_t1 38 rfl rfl, rfl⟩
theorem tT_2 : z_T 2 = .inr (4, 3, 16, 1, 1) := rfl
theorem z_row_2 {i : Int} (h : 0 ≤ i ∧ i < 16) : z_isArr (3 + i) 0 0 3 := z_isArr_of (b := 3) (n := 16) (by decide) (fun j hj => match j, hj with | 0, _ => rfl | 1, _ => rfl | 2, _ => rfl | 3, _ => rfl | 4, _ => rfl | 5, _ => rfl | 6, _ => rfl | 7, _ => rfl | 8, _ => rfl | 9, _ => rfl | 10, _ => rfl | 11, _ => rfl | 12, _ => rfl | 13, _ => rfl | 14, _ => rfl | 15, _ => rfl | _ + 16, h => absurd h (by omega)) h
theorem fl_RX1_16 : z_FL RX1 16 1 1 := ⟨(RX1, TX1, 4), rfl, by decide, win_X1, z_t1 40 rfl rfl, rfl⟩
theorem tT_19 : z_T 19 = .inr (4, 3, 4, 1, 1) := rfl
theorem fl_RX1_23 : z_FL RX1 23 1 3 := ⟨(RX1, TX1, 4), rfl, by decide, win_X1, z_t1 45 rfl rfl, rfl⟩
theorem z_row_19 {i : Int} (h : 0 ≤ i ∧ i < 4) : z_isArr (20 + i) 0 0 3 := z_isArr_of (b := 20) (n := 4) (by decide) (fun j hj => match j, hj with | 0, _ => rfl | 1, _ => rfl | 2, _ => rfl | 3, _ => rfl | _ + 4, h => absurd h (by omega)) h
theorem fl_RX9_9 : z_FL RX9 9 9 0 := ⟨(RX9, TX9, 6), rfl, by decide, win_X9, z_t1 72 rfl rfl, rfl⟩
theorem fl_RX9_25 : z_FL RX9 25 9 4 := ⟨(RX9, TX9, 6), rfl, by decide, win_X9, z_t1 79 rfl rfl, rfl⟩
theorem o_X1_clean : z_oV yX1_clean cX1_clean 3 (some .int) 2 := ⟨⟨z_t3 129 rfl rfl, z_t1 2 rfl rfl, by decide +kernel, by decide⟩, z_t3 127 rfl rfl, z_t3 128 rfl rfl⟩
theorem ml_RX1_26 : Cond.methodLink RX1 26 yX1_clean ∈ z_tbl := z_t3 126 rfl rfl
theorem o_X9_liesAt : z_oV yX9_liesAt cX9_liesAt 3 (some .int) 2 := ⟨⟨z_t3 133 rfl rfl, z_t1 4 rfl rfl, by decide +kernel, by decide⟩, z_t3 131 rfl rfl, z_t3 132 rfl rfl⟩
theorem ml_RX1_30 : Cond.methodLink RX1 30 yX9_liesAt ∈ z_tbl := z_t3 130 rfl rfl
theorem fl_RX1_35 : z_FL RX1 35 9 1 := ⟨(RX9, TX9, 6), rfl, by decide, win_X9, z_t1 75 rfl rfl, rfl⟩
theorem fl_RX0_81 : z_FL RX0 81 9 5 := ⟨(RX9, TX9, 6), rfl, by decide, win_X9, z_t1 81 rfl rfl, rfl⟩
theorem fl_RX0_63 : z_FL RX0 63 1 2 := ⟨(RX1, TX1, 4), rfl, by decide, win_X1, z_t1 44 rfl rfl, rfl⟩
theorem fl_RX0_11 : z_FL RX0 11 0 0 := ⟨(RX0, TX0, 5), rfl, by decide, win_X0, z_t1 198 rfl rfl, rfl⟩
theorem tT_100 : z_T 100 = .inr (4, 4, 24, 1, 1) := rfl
theorem z_row_100 {i : Int} (h : 0 ≤ i ∧ i < 24) : z_isArr (101 + i) 1 1 16 := z_isArr_of (b := 101) (n := 24) (by decide) (fun j hj => match j, hj with | 0, _ => rfl | 1, _ => rfl | 2, _ => rfl | 3, _ => rfl | 4, _ => rfl | 5, _ => rfl | 6, _ => rfl | 7, _ => rfl | 8, _ => rfl | 9, _ => rfl | 10, _ => rfl | 11, _ => rfl | 12, _ => rfl | 13, _ => rfl | 14, _ => rfl | 15, _ => rfl | 16, _ => rfl | 17, _ => rfl | 18, _ => rfl | 19, _ => rfl | 20, _ => rfl | 21, _ => rfl | 22, _ => rfl | 23, _ => rfl | _ + 24, h => absurd h (by omega)) h
theorem o_X1_costBy : z_oV yX1_costBy cX1_costBy 9 (some .long) 3 := ⟨⟨z_t3 125 rfl rfl, z_t1 2 rfl rfl, by decide +kernel, by decide⟩, z_t3 123 rfl rfl, z_t3 124 rfl rfl⟩
theorem ml_RX0_86 : Cond.methodLink RX0 86 yX1_costBy ∈ z_tbl := z_t3 150 rfl rfl
theorem tT_24 : z_T 24 = .inl (4, [(4, 1), (0, 0), (4, 2), (4, 3), (0, 0), (4, 4), (0, 0)]) := rfl
theorem fl_RX4_23 : z_FL RX4 23 4 2 := ⟨(RX4, TX4, 7), rfl, by decide, win_X4, z_t1 133 rfl rfl, rfl⟩
theorem tT_26 : z_T 26 = .inr (4, 6, 10, 33, 3) := rfl
theorem fl_RX7_18 : z_FL RX7 18 7 2 := ⟨(RX7, TX7, 4), rfl, by decide, win_X7, z_t1 108 rfl rfl, rfl⟩
theorem fl_RX7_9 : z_FL RX7 9 7 0 := ⟨(RX7, TX7, 4), rfl, by decide, win_X7, z_t1 101 rfl rfl, rfl⟩
theorem fl_RX9_28 : z_FL RX9 28 9 5 := ⟨(RX9, TX9, 6), rfl, by decide, win_X9, z_t1 80 rfl rfl, rfl⟩
theorem fl_RX9_19 : z_FL RX9 19 9 2 := ⟨(RX9, TX9, 6), rfl, by decide, win_X9, z_t1 77 rfl rfl, rfl⟩
theorem fl_RX9_22 : z_FL RX9 22 9 3 := ⟨(RX9, TX9, 6), rfl, by decide, win_X9, z_t1 78 rfl rfl, rfl⟩
theorem fl_RX4_11 : z_FL RX4 11 4 0 := ⟨(RX4, TX4, 7), rfl, by decide, win_X4, z_t1 127 rfl rfl, rfl⟩
theorem tT_25 : z_T 25 = .inr (4, 5, 6, 4, 5) := rfl
theorem fl_RX4_46 : z_FL RX4 46 7 0 := ⟨(RX7, TX7, 4), rfl, by decide, win_X7, z_t1 102 rfl rfl, rfl⟩
theorem o_X7_soundAt : z_oV yX7_soundAt cX7_soundAt 2 (some .int) 1 := ⟨⟨z_t3 113 rfl rfl, z_t1 5 rfl rfl, by decide +kernel, by decide⟩, z_t3 111 rfl rfl, z_t3 112 rfl rfl⟩
theorem ml_RX4_60 : Cond.methodLink RX4 60 yX7_soundAt ∈ z_tbl := z_t3 110 rfl rfl
theorem o_X9_formBetween : z_oV yX9_formBetween cX9_formBetween 5 (some .int) 2 := ⟨⟨z_t3 117 rfl rfl, z_t1 4 rfl rfl, by decide +kernel, by decide⟩, z_t3 115 rfl rfl, z_t3 116 rfl rfl⟩
theorem ml_RX4_64 : Cond.methodLink RX4 64 yX9_formBetween ∈ z_tbl := z_t3 114 rfl rfl
theorem fl_RX0_90 : z_FL RX0 90 7 2 := ⟨(RX7, TX7, 4), rfl, by decide, win_X7, z_t1 110 rfl rfl, rfl⟩
theorem fl_RX0_23 : z_FL RX0 23 0 3 := ⟨(RX0, TX0, 5), rfl, by decide, win_X0, z_t1 203 rfl rfl, rfl⟩
theorem tT_133 : z_T 133 = .inr (1, 1, 4, 0, 0) := rfl
theorem ml_RX0_108 : Cond.methodLink RX0 108 Lib.MathLoose.min_long.x ∈ z_tbl := z_t3 165 rfl rfl
theorem kc_RX0_44 : Cond.constantLong RX0 44 (1152921504606846976) ∈ z_tbl := z_t3 151 rfl rfl
theorem fl_RX0_95 : z_FL RX0 95 7 1 := ⟨(RX7, TX7, 4), rfl, by decide, win_X7, z_t1 105 rfl rfl, rfl⟩
theorem fl_RX0_114 : z_FL RX0 114 7 3 := ⟨(RX7, TX7, 4), rfl, by decide, win_X7, z_t1 116 rfl rfl, rfl⟩
theorem fl_RX0_98 : z_FL RX0 98 7 0 := ⟨(RX7, TX7, 4), rfl, by decide, win_X7, z_t1 103 rfl rfl, rfl⟩
theorem o_X4_formAt : z_oV yX4_formAt cX4_formAt 4 (some .int) 2 := ⟨⟨z_t3 109 rfl rfl, z_t1 3 rfl rfl, by decide +kernel, by decide⟩, z_t3 107 rfl rfl, z_t3 108 rfl rfl⟩
theorem ml_RX0_100 : Cond.methodLink RX0 100 yX4_formAt ∈ z_tbl := z_t3 160 rfl rfl
theorem o_J7_fill_d0a16 : z_oS yJ7_fill_d0a16 cJ7_fill_d0a16 5 none 2 := ⟨⟨z_t3 154 rfl rfl, z_t1 20 rfl rfl, by decide +kernel, by decide⟩, z_t3 153 rfl rfl⟩
theorem ml_RX0_46 : Cond.methodLink RX0 46 yJ7_fill_d0a16 ∈ z_tbl := z_t3 152 rfl rfl
theorem o_X0_giveFrame : z_oV yX0_giveFrame cX0_giveFrame 9 none 3 := ⟨⟨z_t3 164 rfl rfl, z_t1 7 rfl rfl, by decide +kernel, by decide⟩, z_t3 163 rfl rfl, z_t0 (by decide +kernel) rfl⟩
theorem ml_RX0_104 : Cond.methodLink RX0 104 yX0_giveFrame ∈ z_tbl := z_t3 161 rfl rfl
theorem kc_RX2_39 : Cond.constantLong RX2 39 (8) ∈ z_tbl := z_t3 176 rfl rfl
theorem tT_89 : z_T 89 = .inl (2, [(4, 1), (4, 8), (4, 9), (0, 0), (0, 0), (0, 0)]) := rfl
theorem fl_RX2_11 : z_FL RX2 11 2 0 := ⟨(RX2, TX2, 6), rfl, by decide, win_X2, z_t1 167 rfl rfl, rfl⟩
theorem tT_90 : z_T 90 = .inr (4, 3, 6, 1, 1) := rfl
theorem z_row_90 {i : Int} (h : 0 ≤ i ∧ i < 6) : z_isArr (91 + i) 0 0 6 := z_isArr_of (b := 91) (n := 6) (by decide) (fun j hj => match j, hj with | 0, _ => rfl | 1, _ => rfl | 2, _ => rfl | 3, _ => rfl | 4, _ => rfl | 5, _ => rfl | _ + 6, h => absurd h (by omega)) h
theorem kc_RX2_33 : Cond.constantLong RX2 33 (100) ∈ z_tbl := z_t3 172 rfl rfl
theorem fl_RX2_16 : z_FL RX2 16 2 1 := ⟨(RX2, TX2, 6), rfl, by decide, win_X2, z_t1 168 rfl rfl, rfl⟩
theorem tT_97 : z_T 97 = .inr (0, 0, 6, 0, 0) := rfl
theorem o_X2_logarithm : z_oS yX2_logarithm cX2_logarithm 3 (some .long) 1 := ⟨⟨z_t3 175 rfl rfl, z_t1 6 rfl rfl, by decide +kernel, by decide⟩, z_t3 174 rfl rfl⟩
theorem ml_RX2_35 : Cond.methodLink RX2 35 yX2_logarithm ∈ z_tbl := z_t3 173 rfl rfl
theorem fl_RX2_27 : z_FL RX2 27 2 4 := ⟨(RX2, TX2, 6), rfl, by decide, win_X2, z_t1 172 rfl rfl, rfl⟩
theorem fl_RX2_23 : z_FL RX2 23 2 3 := ⟨(RX2, TX2, 6), rfl, by decide, win_X2, z_t1 170 rfl rfl, rfl⟩
theorem fl_RX2_20 : z_FL RX2 20 2 2 := ⟨(RX2, TX2, 6), rfl, by decide, win_X2, z_t1 169 rfl rfl, rfl⟩
theorem tT_98 : z_T 98 = .inr (0, 0, 6, 0, 0) := rfl
theorem fl_RX0_30 : z_FL RX0 30 4 1 := ⟨(RX4, TX4, 7), rfl, by decide, win_X4, z_t1 131 rfl rfl, rfl⟩
theorem fl_RX0_36 : z_FL RX0 36 4 0 := ⟨(RX4, TX4, 7), rfl, by decide, win_X4, z_t1 128 rfl rfl, rfl⟩
theorem o_X0_fillNear : z_oV yX0_fillNear cX0_fillNear 6 none 3 := ⟨⟨z_t3 149 rfl rfl, z_t1 7 rfl rfl, by decide +kernel, by decide⟩, z_t3 148 rfl rfl, z_t0 (by decide +kernel) rfl⟩
theorem ml_RX0_40 : Cond.methodLink RX0 40 yX0_fillNear ∈ z_tbl := z_t3 146 rfl rfl
theorem fl_RX0_52 : z_FL RX0 52 4 4 := ⟨(RX4, TX4, 7), rfl, by decide, win_X4, z_t1 139 rfl rfl, rfl⟩
theorem fl_RX0_55 : z_FL RX0 55 4 3 := ⟨(RX4, TX4, 7), rfl, by decide, win_X4, z_t1 135 rfl rfl, rfl⟩
theorem tT_27 : z_T 27 = .inr (0, 0, 5, 0, 0) := rfl
theorem o_X4_sayingOf : z_oV yX4_sayingOf cX4_sayingOf 3 (some (.object "Latticehear$Saying")) 2 := ⟨⟨z_t3 92 rfl rfl, z_t1 3 rfl rfl, by decide +kernel, by decide⟩, z_t3 90 rfl rfl, z_t3 91 rfl rfl⟩
theorem ml_RX0_59 : Cond.methodLink RX0 59 yX4_sayingOf ∈ z_tbl := z_t3 155 rfl rfl
theorem o_X0_fillSpans : z_oV yX0_fillSpans cX0_fillSpans 8 none 4 := ⟨⟨z_t3 159 rfl rfl, z_t1 7 rfl rfl, by decide +kernel, by decide⟩, z_t3 158 rfl rfl, z_t0 (by decide +kernel) rfl⟩
theorem ml_RX0_68 : Cond.methodLink RX0 68 yX0_fillSpans ∈ z_tbl := z_t3 156 rfl rfl
theorem fl_RX0_72 : z_FL RX0 72 2 5 := ⟨(RX2, TX2, 6), rfl, by decide, win_X2, z_t1 175 rfl rfl, rfl⟩
theorem o_X2_priceOf : z_oV yX2_priceOf cX2_priceOf 4 (some .long) 2 := ⟨⟨z_t3 171 rfl rfl, z_t1 6 rfl rfl, by decide +kernel, by decide⟩, z_t3 169 rfl rfl, z_t3 170 rfl rfl⟩
theorem ml_RX0_77 : Cond.methodLink RX0 77 yX2_priceOf ∈ z_tbl := z_t3 168 rfl rfl
theorem fl_RX0_26 : z_FL RX0 26 0 4 := ⟨(RX0, TX0, 5), rfl, by decide, win_X0, z_t1 204 rfl rfl, rfl⟩
theorem fp_RX0_26 : z_FP RX0 26 0 4 .boolean := ⟨fl_RX0_26, fc_X0, (RX0, TX0, 5), rfl, rfl, by decide +kernel⟩
theorem fp_RX2_23 : z_FP RX2 23 2 3 .int := ⟨fl_RX2_23, fc_X2, (RX2, TX2, 6), rfl, rfl, by decide +kernel⟩
theorem tT_144 : z_T 144 = .inl (3, [(4, 1), (4, 2), (4, 3), (0, 0), (0, 0), (2, 0)]) := rfl
theorem o_X0_toll : z_oV yX0_toll cX0_toll 3 (some .long) 2 := ⟨⟨z_t4 10 rfl rfl, z_t1 7 rfl rfl, by decide +kernel, by decide⟩, z_t4 8 rfl rfl, z_t4 9 rfl rfl⟩
theorem ml_RX3_57 : Cond.methodLink RX3 57 yX0_toll ∈ z_tbl := z_t4 116 rfl rfl
theorem kc_RX3_55 : Cond.constantLong RX3 55 (1152921504606846976) ∈ z_tbl := z_t4 117 rfl rfl
theorem fl_RX3_21 : z_FL RX3 21 3 3 := ⟨(RX3, TX3, 6), rfl, by decide, win_X3, z_t2 59 rfl rfl, rfl⟩
theorem fl_RX3_15 : z_FL RX3 15 3 1 := ⟨(RX3, TX3, 6), rfl, by decide, win_X3, z_t2 57 rfl rfl, rfl⟩
theorem tT_146 : z_T 146 = .inr (1, 1, 340, 0, 0) := rfl
theorem o_X3_index : z_oS yX3_index cX3_index 3 (some .int) 3 := ⟨⟨z_t4 111 rfl rfl, z_t1 10 rfl rfl, by decide +kernel, by decide⟩, z_t4 110 rfl rfl⟩
theorem ml_RX3_32 : Cond.methodLink RX3 32 yX3_index ∈ z_tbl := z_t4 109 rfl rfl
theorem o_X0_span : z_oV yX0_span cX0_span 4 (some .long) 3 := ⟨⟨z_t3 180 rfl rfl, z_t1 7 rfl rfl, by decide +kernel, by decide⟩, z_t3 178 rfl rfl, z_t3 179 rfl rfl⟩
theorem ml_RX3_47 : Cond.methodLink RX3 47 yX0_span ∈ z_tbl := z_t4 118 rfl rfl
theorem ml_RX3_61 : Cond.methodLink RX3 61 Lib.MathLoose.min_long.x ∈ z_tbl := z_t4 119 rfl rfl
theorem fl_RX3_25 : z_FL RX3 25 3 4 := ⟨(RX3, TX3, 6), rfl, by decide, win_X3, z_t2 60 rfl rfl, rfl⟩
theorem fl_RX3_18 : z_FL RX3 18 3 2 := ⟨(RX3, TX3, 6), rfl, by decide, win_X3, z_t2 58 rfl rfl, rfl⟩
theorem tT_147 : z_T 147 = .inr (1, 1, 340, 0, 0) := rfl
theorem fp_RX3_21 : z_FP RX3 21 3 3 .int := ⟨fl_RX3_21, fc_X3, (RX3, TX3, 6), rfl, rfl, by decide +kernel⟩
theorem fp_RX3_25 : z_FP RX3 25 3 4 .int := ⟨fl_RX3_25, fc_X3, (RX3, TX3, 6), rfl, rfl, by decide +kernel⟩
theorem o_X3_leadOf : z_oV yX3_leadOf cX3_leadOf 11 (some .long) 4 := ⟨⟨z_t4 115 rfl rfl, z_t1 10 rfl rfl, by decide +kernel, by decide⟩, z_t4 114 rfl rfl, z_t0 (by decide +kernel) rfl⟩
theorem ml_RX3_36 : Cond.methodLink RX3 36 yX3_leadOf ∈ z_tbl := z_t4 112 rfl rfl
theorem o_X3_trailOf : z_oV yX3_trailOf cX3_trailOf 11 (some .long) 4 := ⟨⟨z_t4 123 rfl rfl, z_t1 10 rfl rfl, by decide +kernel, by decide⟩, z_t4 122 rfl rfl, z_t0 (by decide +kernel) rfl⟩
theorem ml_RX3_40 : Cond.methodLink RX3 40 yX3_trailOf ∈ z_tbl := z_t4 120 rfl rfl
theorem o_X3_leastThrough : z_oV yX3_leastThrough cX3_leastThrough 9 (some .long) 3 := ⟨⟨z_t4 127 rfl rfl, z_t1 10 rfl rfl, by decide +kernel, by decide⟩, z_t4 126 rfl rfl, z_t0 (by decide +kernel) rfl⟩
theorem ml_RX3_43 : Cond.methodLink RX3 43 yX3_leastThrough ∈ z_tbl := z_t4 124 rfl rfl
theorem fl_RX3_9 : z_FL RX3 9 3 0 := ⟨(RX3, TX3, 6), rfl, by decide, win_X3, z_t2 56 rfl rfl, rfl⟩
theorem tT_145 : z_T 145 = .inr (1, 1, 1445, 0, 0) := rfl
theorem o_X3_arcAt : z_oS yX3_arcAt cX3_arcAt 3 (some .int) 3 := ⟨⟨z_t4 130 rfl rfl, z_t1 10 rfl rfl, by decide +kernel, by decide⟩, z_t4 129 rfl rfl⟩
theorem ml_RX3_52 : Cond.methodLink RX3 52 yX3_arcAt ∈ z_tbl := z_t4 128 rfl rfl
theorem fl_RX3_28 : z_FL RX3 28 3 5 := ⟨(RX3, TX3, 6), rfl, by decide, win_X3, z_t2 61 rfl rfl, rfl⟩
theorem fp_RX3_28 : z_FP RX3 28 3 5 .boolean := ⟨fl_RX3_28, fc_X3, (RX3, TX3, 6), rfl, rfl, by decide +kernel⟩
theorem o_X3_isWithin : z_oV yX3_isWithin cX3_isWithin 8 (some .boolean) 4 := ⟨⟨z_t4 138 rfl rfl, z_t1 10 rfl rfl, by decide +kernel, by decide⟩, z_t4 137 rfl rfl, z_t0 (by decide +kernel) rfl⟩
theorem ml_RX3_67 : Cond.methodLink RX3 67 yX3_isWithin ∈ z_tbl := z_t4 135 rfl rfl
theorem kc_RX3_71 : Cond.constantLong RX3 71 (-1) ∈ z_tbl := z_t4 147 rfl rfl
theorem fl_RX4_37 : z_FL RX4 37 4 6 := ⟨(RX4, TX4, 7), rfl, by decide, win_X4, z_t1 143 rfl rfl, rfl⟩
theorem fl_RX4_34 : z_FL RX4 34 4 5 := ⟨(RX4, TX4, 7), rfl, by decide, win_X4, z_t1 141 rfl rfl, rfl⟩
theorem tT_28 : z_T 28 = .inr (0, 0, 4, 0, 0) := rfl
theorem fl_RX4_17 : z_FL RX4 17 4 1 := ⟨(RX4, TX4, 7), rfl, by decide, win_X4, z_t1 130 rfl rfl, rfl⟩
theorem fl_RX4_27 : z_FL RX4 27 4 3 := ⟨(RX4, TX4, 7), rfl, by decide, win_X4, z_t1 134 rfl rfl, rfl⟩
theorem ml_RX4_42 : Cond.methodLink RX4 42 yX4_sayingOf ∈ z_tbl := z_t3 89 rfl rfl
theorem ml_RX4_48 : Cond.methodLink RX4 48 arraycopyName ∈ z_tbl := z_t3 93 rfl rfl
theorem fl_RX4_54 : z_FL RX4 54 7 2 := ⟨(RX7, TX7, 4), rfl, by decide, win_X7, z_t1 109 rfl rfl, rfl⟩
theorem fp_RX4_54 : z_FP RX4 54 7 2 .int := ⟨fl_RX4_54, fc_X7, (RX7, TX7, 4), rfl, rfl, by decide +kernel⟩
theorem fl_RX4_57 : z_FL RX4 57 7 3 := ⟨(RX7, TX7, 4), rfl, by decide, win_X7, z_t1 114 rfl rfl, rfl⟩
theorem fp_RX4_57 : z_FP RX4 57 7 3 .int := ⟨fl_RX4_57, fc_X7, (RX7, TX7, 4), rfl, rfl, by decide +kernel⟩
theorem fp_RX4_37 : z_FP RX4 37 4 6 .int := ⟨fl_RX4_37, fc_X4, (RX4, TX4, 7), rfl, rfl, by decide +kernel⟩
theorem tT_134 : z_T 134 = .inl (5, [(4, 1), (4, 2), (4, 3), (3, 0), (3, 0), (0, 0), (0, 0), (0, 0), (0, 0), (2, 0), (2, 0)]) := rfl
theorem kc_RX5_56 : Cond.constantLong RX5 56 (1152921504606846976) ∈ z_tbl := z_t4 4 rfl rfl
theorem ml_RX5_64 : Cond.methodLink RX5 64 yX0_span ∈ z_tbl := z_t4 5 rfl rfl
theorem ml_RX5_58 : Cond.methodLink RX5 58 yX0_toll ∈ z_tbl := z_t4 7 rfl rfl
theorem fl_RX5_9 : z_FL RX5 9 5 0 := ⟨(RX5, TX5, 11), rfl, by decide, win_X5, z_t1 224 rfl rfl, rfl⟩
theorem tT_135 : z_T 135 = .inr (0, 0, 780, 0, 0) := rfl
theorem fl_RX5_19 : z_FL RX5 19 5 2 := ⟨(RX5, TX5, 11), rfl, by decide, win_X5, z_t1 226 rfl rfl, rfl⟩
theorem tT_137 : z_T 137 = .inr (1, 1, 2635, 0, 0) := rfl
theorem ml_RX5_68 : Cond.methodLink RX5 68 Lib.MathLoose.min_long.x ∈ z_tbl := z_t4 6 rfl rfl
theorem fl_RX5_28 : z_FL RX5 28 5 5 := ⟨(RX5, TX5, 11), rfl, by decide, win_X5, z_t1 229 rfl rfl, rfl⟩
theorem fl_RX5_32 : z_FL RX5 32 5 6 := ⟨(RX5, TX5, 11), rfl, by decide, win_X5, z_t1 230 rfl rfl, rfl⟩
theorem o_X5_arrive : z_oV yX5_arrive cX5_arrive 8 (some .long) 4 := ⟨⟨z_t4 3 rfl rfl, z_t1 8 rfl rfl, by decide +kernel, by decide⟩, z_t4 2 rfl rfl, z_t0 (by decide +kernel) rfl⟩
theorem ml_RX5_52 : Cond.methodLink RX5 52 yX5_arrive ∈ z_tbl := z_t4 0 rfl rfl
theorem fl_RX5_15 : z_FL RX5 15 5 1 := ⟨(RX5, TX5, 11), rfl, by decide, win_X5, z_t1 225 rfl rfl, rfl⟩
theorem tT_136 : z_T 136 = .inr (1, 1, 780, 0, 0) := rfl
theorem fl_RX5_35 : z_FL RX5 35 5 7 := ⟨(RX5, TX5, 11), rfl, by decide, win_X5, z_t1 231 rfl rfl, rfl⟩
theorem fp_RX5_35 : z_FP RX5 35 5 7 .int := ⟨fl_RX5_35, fc_X5, (RX5, TX5, 11), rfl, rfl, by decide +kernel⟩
theorem fl_RX5_38 : z_FL RX5 38 5 8 := ⟨(RX5, TX5, 11), rfl, by decide, win_X5, z_t1 233 rfl rfl, rfl⟩
theorem fp_RX5_38 : z_FP RX5 38 5 8 .int := ⟨fl_RX5_38, fc_X5, (RX5, TX5, 11), rfl, rfl, by decide +kernel⟩
theorem fp_RX5_32 : z_FP RX5 32 5 6 .int := ⟨fl_RX5_32, fc_X5, (RX5, TX5, 11), rfl, rfl, by decide +kernel⟩
theorem fp_RX5_28 : z_FP RX5 28 5 5 .int := ⟨fl_RX5_28, fc_X5, (RX5, TX5, 11), rfl, rfl, by decide +kernel⟩
theorem o_X5_addChildren : z_oV yX5_addChildren cX5_addChildren 7 none 3 := ⟨⟨z_t3 239 rfl rfl, z_t1 8 rfl rfl, by decide +kernel, by decide⟩, z_t3 238 rfl rfl, z_t0 (by decide +kernel) rfl⟩
theorem ml_RX5_48 : Cond.methodLink RX5 48 yX5_addChildren ∈ z_tbl := z_t3 236 rfl rfl
theorem fl_RX5_45 : z_FL RX5 45 5 10 := ⟨(RX5, TX5, 11), rfl, by decide, win_X5, z_t1 236 rfl rfl, rfl⟩
theorem fp_RX5_45 : z_FP RX5 45 5 10 .boolean := ⟨fl_RX5_45, fc_X5, (RX5, TX5, 11), rfl, rfl, by decide +kernel⟩
theorem fl_RX5_41 : z_FL RX5 41 5 9 := ⟨(RX5, TX5, 11), rfl, by decide, win_X5, z_t1 234 rfl rfl, rfl⟩
theorem fp_RX5_41 : z_FP RX5 41 5 9 .boolean := ⟨fl_RX5_41, fc_X5, (RX5, TX5, 11), rfl, rfl, by decide +kernel⟩
theorem fl_RX5_22 : z_FL RX5 22 5 3 := ⟨(RX5, TX5, 11), rfl, by decide, win_X5, z_t1 227 rfl rfl, rfl⟩
theorem fl_RX5_25 : z_FL RX5 25 5 4 := ⟨(RX5, TX5, 11), rfl, by decide, win_X5, z_t1 228 rfl rfl, rfl⟩
theorem ml_RX5_77 : Cond.methodLink RX5 77 Lib.Math.min.name ∈ z_tbl := z_t4 45 rfl rfl
theorem o_X5_merge : z_oV yX5_merge cX5_merge 8 none 3 := ⟨⟨z_t4 51 rfl rfl, z_t1 8 rfl rfl, by decide +kernel, by decide⟩, z_t4 50 rfl rfl, z_t0 (by decide +kernel) rfl⟩
theorem ml_RX5_80 : Cond.methodLink RX5 80 yX5_merge ∈ z_tbl := z_t4 48 rfl rfl
theorem fp_RX5_25 : z_FP RX5 25 5 4 (.array .int) := ⟨fl_RX5_25, fc_X5, (RX5, TX5, 11), rfl, rfl, by decide +kernel⟩
theorem fp_RX5_22 : z_FP RX5 22 5 3 (.array .int) := ⟨fl_RX5_22, fc_X5, (RX5, TX5, 11), rfl, rfl, by decide +kernel⟩
theorem o_X5_sort : z_oV yX5_sort cX5_sort 4 none 0 := ⟨⟨z_t4 44 rfl rfl, z_t1 8 rfl rfl, by decide +kernel, by decide⟩, z_t4 43 rfl rfl, z_t0 (by decide +kernel) rfl⟩
theorem ml_RX5_74 : Cond.methodLink RX5 74 yX5_sort ∈ z_tbl := z_t4 41 rfl rfl
theorem fl_RX6_15 : z_FL RX6 15 6 1 := ⟨(RX6, TX6, 2), rfl, by decide, win_X6, z_t2 105 rfl rfl, rfl⟩
theorem fp_RX6_15 : z_FP RX6 15 6 1 .int := ⟨fl_RX6_15, fc_X6, (RX6, TX6, 2), rfl, rfl, by decide +kernel⟩
theorem fl_RX6_9 : z_FL RX6 9 6 0 := ⟨(RX6, TX6, 2), rfl, by decide, win_X6, z_t2 104 rfl rfl, rfl⟩
theorem tT_140 : z_T 140 = .inl (8, [(4, 1), (4, 2), (4, 3), (0, 0), (0, 0), (1, 0)]) := rfl
theorem kc_RX8_36 : Cond.constantLong RX8 36 (1152921504606846976) ∈ z_tbl := z_t4 60 rfl rfl
theorem fl_RX8_9 : z_FL RX8 9 8 0 := ⟨(RX8, TX8, 6), rfl, by decide, win_X8, z_t2 27 rfl rfl, rfl⟩
theorem tT_141 : z_T 141 = .inr (1, 1, 340, 0, 0) := rfl
theorem fl_RX8_15 : z_FL RX8 15 8 1 := ⟨(RX8, TX8, 6), rfl, by decide, win_X8, z_t2 28 rfl rfl, rfl⟩
theorem tT_142 : z_T 142 = .inr (0, 0, 340, 0, 0) := rfl
theorem ml_RX8_44 : Cond.methodLink RX8 44 yX0_span ∈ z_tbl := z_t4 62 rfl rfl
theorem ml_RX8_50 : Cond.methodLink RX8 50 yX0_toll ∈ z_tbl := z_t4 63 rfl rfl
theorem o_X8_putEnd : z_oV yX8_putEnd cX8_putEnd 5 none 3 := ⟨⟨z_t4 67 rfl rfl, z_t1 9 rfl rfl, by decide +kernel, by decide⟩, z_t4 66 rfl rfl, z_t0 (by decide +kernel) rfl⟩
theorem ml_RX8_54 : Cond.methodLink RX8 54 yX8_putEnd ∈ z_tbl := z_t4 64 rfl rfl
theorem fl_RX8_23 : z_FL RX8 23 8 3 := ⟨(RX8, TX8, 6), rfl, by decide, win_X8, z_t2 30 rfl rfl, rfl⟩
theorem fp_RX8_23 : z_FP RX8 23 8 3 .int := ⟨fl_RX8_23, fc_X8, (RX8, TX8, 6), rfl, rfl, by decide +kernel⟩
theorem ml_RX8_74 : Cond.methodLink RX8 74 Lib.MathLoose.min_long.x ∈ z_tbl := z_t4 76 rfl rfl
theorem o_X8_drop : z_oV yX8_drop cX8_drop 2 none 1 := ⟨⟨z_t4 80 rfl rfl, z_t1 9 rfl rfl, by decide +kernel, by decide⟩, z_t4 79 rfl rfl, z_t0 (by decide +kernel) rfl⟩
theorem ml_RX8_80 : Cond.methodLink RX8 80 yX8_drop ∈ z_tbl := z_t4 77 rfl rfl
theorem fl_RX8_19 : z_FL RX8 19 8 2 := ⟨(RX8, TX8, 6), rfl, by decide, win_X8, z_t2 29 rfl rfl, rfl⟩
theorem tT_143 : z_T 143 = .inr (2, 2, 20, 0, 0) := rfl
theorem o_X8_countAhead : z_oV yX8_countAhead cX8_countAhead 7 (some .int) 2 := ⟨⟨z_t4 88 rfl rfl, z_t1 9 rfl rfl, by decide +kernel, by decide⟩, z_t4 87 rfl rfl, z_t0 (by decide +kernel) rfl⟩
theorem ml_RX8_84 : Cond.methodLink RX8 84 yX8_countAhead ∈ z_tbl := z_t4 85 rfl rfl
theorem fl_RX8_27 : z_FL RX8 27 8 4 := ⟨(RX8, TX8, 6), rfl, by decide, win_X8, z_t2 32 rfl rfl, rfl⟩
theorem fp_RX8_27 : z_FP RX8 27 8 4 .int := ⟨fl_RX8_27, fc_X8, (RX8, TX8, 6), rfl, rfl, by decide +kernel⟩
theorem kc_RX8_30 : Cond.constantLong RX8 30 (-1) ∈ z_tbl := z_t2 26 rfl rfl
theorem fl_RX8_32 : z_FL RX8 32 8 5 := ⟨(RX8, TX8, 6), rfl, by decide, win_X8, z_t2 34 rfl rfl, rfl⟩
theorem fp_RX8_32 : z_FP RX8 32 8 5 .long := ⟨fl_RX8_32, fc_X8, (RX8, TX8, 6), rfl, rfl, by decide +kernel⟩
theorem ml_RX8_38 : Cond.methodLink RX8 38 yJ7_fill_d0a16 ∈ z_tbl := z_t4 61 rfl rfl
theorem o_X8_lengthen : z_oV yX8_lengthen cX8_lengthen 13 none 5 := ⟨⟨z_t4 71 rfl rfl, z_t1 9 rfl rfl, by decide +kernel, by decide⟩, z_t4 70 rfl rfl, z_t0 (by decide +kernel) rfl⟩
theorem ml_RX8_58 : Cond.methodLink RX8 58 yX8_lengthen ∈ z_tbl := z_t4 68 rfl rfl
theorem o_X8_dropDear : z_oV yX8_dropDear cX8_dropDear 7 none 2 := ⟨⟨z_t4 75 rfl rfl, z_t1 9 rfl rfl, by decide +kernel, by decide⟩, z_t4 74 rfl rfl, z_t0 (by decide +kernel) rfl⟩
theorem ml_RX8_62 : Cond.methodLink RX8 62 yX8_dropDear ∈ z_tbl := z_t4 72 rfl rfl
theorem o_X8_dropLate : z_oV yX8_dropLate cX8_dropLate 4 none 2 := ⟨⟨z_t4 84 rfl rfl, z_t1 9 rfl rfl, by decide +kernel, by decide⟩, z_t4 83 rfl rfl, z_t0 (by decide +kernel) rfl⟩
theorem ml_RX8_66 : Cond.methodLink RX8 66 yX8_dropLate ∈ z_tbl := z_t4 81 rfl rfl
theorem o_X8_finish : z_oV yX8_finish cX8_finish 11 none 3 := ⟨⟨z_t4 92 rfl rfl, z_t1 9 rfl rfl, by decide +kernel, by decide⟩, z_t4 91 rfl rfl, z_t0 (by decide +kernel) rfl⟩
theorem ml_RX8_70 : Cond.methodLink RX8 70 yX8_finish ∈ z_tbl := z_t4 89 rfl rfl
theorem fp_RX9_28 : z_FP RX9 28 9 5 .int := ⟨fl_RX9_28, fc_X9, (RX9, TX9, 6), rfl, rfl, by decide +kernel⟩
theorem tT_148 : z_T 148 = .inl (10, [(4, 1), (4, 8), (4, 9), (2, 0)]) := rfl
theorem fl_RX10_16 : z_FL RX10 16 10 1 := ⟨(RX10, TX10, 4), rfl, by decide, win_X10, z_t2 85 rfl rfl, rfl⟩
theorem tT_156 : z_T 156 = .inr (1, 1, 85, 0, 0) := rfl
theorem kc_RX10_49 : Cond.constantLong RX10 49 (1152921504606846976) ∈ z_tbl := z_t4 177 rfl rfl
theorem ml_RX10_51 : Cond.methodLink RX10 51 yJ7_fill_d0a16 ∈ z_tbl := z_t4 178 rfl rfl
theorem fl_RX10_31 : z_FL RX10 31 6 1 := ⟨(RX6, TX6, 2), rfl, by decide, win_X6, z_t2 106 rfl rfl, rfl⟩
theorem o_X6_wordAt : z_oV yX6_wordAt cX6_wordAt 2 (some .int) 1 := ⟨⟨z_t3 201 rfl rfl, z_t1 12 rfl rfl, by decide +kernel, by decide⟩, z_t3 199 rfl rfl, z_t3 200 rfl rfl⟩
theorem ml_RX10_41 : Cond.methodLink RX10 41 yX6_wordAt ∈ z_tbl := z_t4 179 rfl rfl
theorem ml_RX10_57 : Cond.methodLink RX10 57 yX0_span ∈ z_tbl := z_t4 180 rfl rfl
theorem ml_RX10_63 : Cond.methodLink RX10 63 Lib.MathLoose.min_long.x ∈ z_tbl := z_t4 181 rfl rfl
theorem fl_RX10_20 : z_FL RX10 20 10 2 := ⟨(RX10, TX10, 4), rfl, by decide, win_X10, z_t2 86 rfl rfl, rfl⟩
theorem tT_157 : z_T 157 = .inr (1, 1, 85, 0, 0) := rfl
theorem fl_RX10_92 : z_FL RX10 92 7 2 := ⟨(RX7, TX7, 4), rfl, by decide, win_X7, z_t1 111 rfl rfl, rfl⟩
theorem fl_RX10_93 : z_FL RX10 93 0 0 := ⟨(RX0, TX0, 5), rfl, by decide, win_X0, z_t1 199 rfl rfl, rfl⟩
theorem fl_RX10_97 : z_FL RX10 97 7 1 := ⟨(RX7, TX7, 4), rfl, by decide, win_X7, z_t1 106 rfl rfl, rfl⟩
theorem fl_RX10_11 : z_FL RX10 11 10 0 := ⟨(RX10, TX10, 4), rfl, by decide, win_X10, z_t2 83 rfl rfl, rfl⟩
theorem tT_149 : z_T 149 = .inr (4, 3, 6, 1, 1) := rfl
theorem z_row_149 {i : Int} (h : 0 ≤ i ∧ i < 6) : z_isArr (150 + i) 0 0 16 := z_isArr_of (b := 150) (n := 6) (by decide) (fun j hj => match j, hj with | 0, _ => rfl | 1, _ => rfl | 2, _ => rfl | 3, _ => rfl | 4, _ => rfl | 5, _ => rfl | _ + 6, h => absurd h (by omega)) h
theorem ml_RX10_69 : Cond.methodLink RX10 69 yX4_sayingOf ∈ z_tbl := z_t4 190 rfl rfl
theorem o_X10_fillTails : z_oV yX10_fillTails cX10_fillTails 15 none 4 := ⟨⟨z_t4 194 rfl rfl, z_t1 11 rfl rfl, by decide +kernel, by decide⟩, z_t4 193 rfl rfl, z_t0 (by decide +kernel) rfl⟩
theorem ml_RX10_75 : Cond.methodLink RX10 75 yX10_fillTails ∈ z_tbl := z_t4 191 rfl rfl
theorem fl_RX10_79 : z_FL RX10 79 4 3 := ⟨(RX4, TX4, 7), rfl, by decide, win_X4, z_t1 136 rfl rfl, rfl⟩
theorem fl_RX10_83 : z_FL RX10 83 7 3 := ⟨(RX7, TX7, 4), rfl, by decide, win_X7, z_t1 115 rfl rfl, rfl⟩
theorem o_X10_sayAll : z_oV yX10_sayAll cX10_sayAll 11 none 3 := ⟨⟨z_t4 198 rfl rfl, z_t1 11 rfl rfl, by decide +kernel, by decide⟩, z_t4 197 rfl rfl, z_t0 (by decide +kernel) rfl⟩
theorem ml_RX10_88 : Cond.methodLink RX10 88 yX10_sayAll ∈ z_tbl := z_t4 195 rfl rfl
theorem o_X10_fillRests : z_oV yX10_fillRests cX10_fillRests 9 none 3 := ⟨⟨z_t4 176 rfl rfl, z_t1 11 rfl rfl, by decide +kernel, by decide⟩, z_t4 175 rfl rfl, z_t0 (by decide +kernel) rfl⟩
theorem ml_RX10_27 : Cond.methodLink RX10 27 yX10_fillRests ∈ z_tbl := z_t4 173 rfl rfl
theorem o_X10_firstCut : z_oV yX10_firstCut cX10_firstCut 9 (some .int) 5 := ⟨⟨z_t4 185 rfl rfl, z_t1 11 rfl rfl, by decide +kernel, by decide⟩, z_t4 184 rfl rfl, z_t0 (by decide +kernel) rfl⟩
theorem ml_RX10_37 : Cond.methodLink RX10 37 yX10_firstCut ∈ z_tbl := z_t4 182 rfl rfl
theorem o_X10_sayWord : z_oV yX10_sayWord cX10_sayWord 10 none 6 := ⟨⟨z_t4 189 rfl rfl, z_t1 11 rfl rfl, by decide +kernel, by decide⟩, z_t4 188 rfl rfl, z_t0 (by decide +kernel) rfl⟩
theorem ml_RX10_45 : Cond.methodLink RX10 45 yX10_sayWord ∈ z_tbl := z_t4 186 rfl rfl
theorem fl_RX10_23 : z_FL RX10 23 10 3 := ⟨(RX10, TX10, 4), rfl, by decide, win_X10, z_t2 87 rfl rfl, rfl⟩
theorem fp_RX10_23 : z_FP RX10 23 10 3 .boolean := ⟨fl_RX10_23, fc_X10, (RX10, TX10, 4), rfl, rfl, by decide +kernel⟩
theorem oT_RX11_319 : z_oT RX11 1 319 323 := ⟨by decide +kernel, by decide +kernel, by decide +kernel, by decide +kernel, by decide +kernel, by decide⟩
theorem o_X11_checkRange : z_oS yX11_checkRange cX11_checkRange 3 none 3 := ⟨⟨z_t2 182 rfl rfl, z_t1 1 rfl rfl, by decide +kernel, by decide⟩, z_t2 181 rfl rfl⟩
theorem ml_RX11_112 : Cond.methodLink RX11 112 yX11_checkRange ∈ z_tbl := z_t2 180 rfl rfl
theorem tT_0 : z_T 0 = .inl (11, [(4, 1), (4, 24), (4, 89), (4, 99), (4, 134), (4, 140), (4, 144), (4, 148), (4, 158), (4, 160), (4, 162)]) := rfl
theorem fl_RX11_33 : z_FL RX11 33 11 3 := ⟨(RX11, TX11, 11), rfl, by decide, win_X11, z_t2 117 rfl rfl, rfl⟩
theorem fl_RX11_331 : z_FL RX11 331 0 4 := ⟨(RX0, TX0, 5), rfl, by decide, win_X0, z_t1 205 rfl rfl, rfl⟩
theorem fp_RX11_331 : z_FP RX11 331 0 4 .boolean := ⟨fl_RX11_331, fc_X0, (RX0, TX0, 5), rfl, rfl, by decide +kernel⟩
theorem fl_RX11_40 : z_FL RX11 40 11 4 := ⟨(RX11, TX11, 11), rfl, by decide, win_X11, z_t2 118 rfl rfl, rfl⟩
theorem fl_RX11_335 : z_FL RX11 335 5 9 := ⟨(RX5, TX5, 11), rfl, by decide, win_X5, z_t1 235 rfl rfl, rfl⟩
theorem fp_RX11_335 : z_FP RX11 335 5 9 .boolean := ⟨fl_RX11_335, fc_X5, (RX5, TX5, 11), rfl, rfl, by decide +kernel⟩
theorem fl_RX11_54 : z_FL RX11 54 11 6 := ⟨(RX11, TX11, 11), rfl, by decide, win_X11, z_t2 120 rfl rfl, rfl⟩
theorem fl_RX11_336 : z_FL RX11 336 3 5 := ⟨(RX3, TX3, 6), rfl, by decide, win_X3, z_t2 62 rfl rfl, rfl⟩
theorem fp_RX11_336 : z_FP RX11 336 3 5 .boolean := ⟨fl_RX11_336, fc_X3, (RX3, TX3, 6), rfl, rfl, by decide +kernel⟩
theorem fl_RX11_61 : z_FL RX11 61 11 7 := ⟨(RX11, TX11, 11), rfl, by decide, win_X11, z_t2 121 rfl rfl, rfl⟩
theorem fl_RX11_337 : z_FL RX11 337 10 3 := ⟨(RX10, TX10, 4), rfl, by decide, win_X10, z_t2 88 rfl rfl, rfl⟩
theorem fp_RX11_337 : z_FP RX11 337 10 3 .boolean := ⟨fl_RX11_337, fc_X10, (RX10, TX10, 4), rfl, rfl, by decide +kernel⟩
theorem o_X11_checkTriple : z_oS yX11_checkTriple cX11_checkTriple 3 none 3 := ⟨⟨z_t2 179 rfl rfl, z_t1 1 rfl rfl, by decide +kernel, by decide⟩, z_t2 178 rfl rfl⟩
theorem ml_RX11_80 : Cond.methodLink RX11 80 yX11_checkTriple ∈ z_tbl := z_t2 177 rfl rfl
theorem fl_RX11_12 : z_FL RX11 12 11 0 := ⟨(RX11, TX11, 11), rfl, by decide, win_X11, z_t2 114 rfl rfl, rfl⟩
theorem fl_RX11_84 : z_FL RX11 84 1 2 := ⟨(RX1, TX1, 4), rfl, by decide, win_X1, z_t1 43 rfl rfl, rfl⟩
theorem fl_RX11_95 : z_FL RX11 95 1 0 := ⟨(RX1, TX1, 4), rfl, by decide, win_X1, z_t1 39 rfl rfl, rfl⟩
theorem o_X11_setTriple : z_oS yX11_setTriple cX11_setTriple 4 none 4 := ⟨⟨z_t3 29 rfl rfl, z_t1 1 rfl rfl, by decide +kernel, by decide⟩, z_t3 28 rfl rfl⟩
theorem ml_RX11_98 : Cond.methodLink RX11 98 yX11_setTriple ∈ z_tbl := z_t3 27 rfl rfl
theorem fp_RX11_84 : z_FP RX11 84 1 2 .int := ⟨fl_RX11_84, fc_X1, (RX1, TX1, 4), rfl, rfl, by decide +kernel⟩
theorem o_X11_outdate : z_oV yX11_outdate cX11_outdate 1 none 0 := ⟨⟨z_t2 155 rfl rfl, z_t1 1 rfl rfl, by decide +kernel, by decide⟩, z_t2 154 rfl rfl, z_t0 (by decide +kernel) rfl⟩
theorem ml_RX11_102 : Cond.methodLink RX11 102 yX11_outdate ∈ z_tbl := z_t2 152 rfl rfl
theorem oT_RX11_88 : z_oT RX11 2 88 92 := ⟨by decide +kernel, by decide +kernel, by decide +kernel, by decide +kernel, by decide +kernel, by decide⟩
theorem oT_RX11_324 : z_oT RX11 3 324 328 := ⟨by decide +kernel, by decide +kernel, by decide +kernel, by decide +kernel, by decide +kernel, by decide⟩
theorem o_X11_checkIndex : z_oS yX11_checkIndex cX11_checkIndex 2 none 2 := ⟨⟨z_t3 36 rfl rfl, z_t1 1 rfl rfl, by decide +kernel, by decide⟩, z_t3 35 rfl rfl⟩
theorem ml_RX11_105 : Cond.methodLink RX11 105 yX11_checkIndex ∈ z_tbl := z_t3 34 rfl rfl
theorem fl_RX11_109 : z_FL RX11 109 1 3 := ⟨(RX1, TX1, 4), rfl, by decide, win_X1, z_t1 46 rfl rfl, rfl⟩
theorem fp_RX11_109 : z_FP RX11 109 1 3 .int := ⟨fl_RX11_109, fc_X1, (RX1, TX1, 4), rfl, rfl, by decide +kernel⟩
theorem fl_RX11_115 : z_FL RX11 115 1 1 := ⟨(RX1, TX1, 4), rfl, by decide, win_X1, z_t1 41 rfl rfl, rfl⟩
theorem fl_RX11_19 : z_FL RX11 19 11 1 := ⟨(RX11, TX11, 11), rfl, by decide, win_X11, z_t2 115 rfl rfl, rfl⟩
theorem fl_RX11_26 : z_FL RX11 26 11 2 := ⟨(RX11, TX11, 11), rfl, by decide, win_X11, z_t2 116 rfl rfl, rfl⟩
theorem o_X0_fill : z_oV yX0_fill cX0_fill 6 none 3 := ⟨⟨z_t3 145 rfl rfl, z_t1 7 rfl rfl, by decide +kernel, by decide⟩, z_t3 143 rfl rfl, z_t3 144 rfl rfl⟩
theorem ml_RX11_338 : Cond.methodLink RX11 338 yX0_fill ∈ z_tbl := z_t3 142 rfl rfl
theorem fl_RX11_186 : z_FL RX11 186 4 4 := ⟨(RX4, TX4, 7), rfl, by decide, win_X4, z_t1 140 rfl rfl, rfl⟩
theorem o_X5_fill : z_oV yX5_fill cX5_fill 5 none 3 := ⟨⟨z_t3 235 rfl rfl, z_t1 8 rfl rfl, by decide +kernel, by decide⟩, z_t3 233 rfl rfl, z_t3 234 rfl rfl⟩
theorem ml_RX11_342 : Cond.methodLink RX11 342 yX5_fill ∈ z_tbl := z_t3 232 rfl rfl
theorem o_X11_readyRows : z_oV yX11_readyRows cX11_readyRows 1 none 0 := ⟨⟨z_t3 231 rfl rfl, z_t1 1 rfl rfl, by decide +kernel, by decide⟩, z_t3 230 rfl rfl, z_t0 (by decide +kernel) rfl⟩
theorem ml_RX11_141 : Cond.methodLink RX11 141 yX11_readyRows ∈ z_tbl := z_t3 228 rfl rfl
theorem fl_RX11_316 : z_FL RX11 316 5 7 := ⟨(RX5, TX5, 11), rfl, by decide, win_X5, z_t1 232 rfl rfl, rfl⟩
theorem fl_RX11_72 : z_FL RX11 72 11 9 := ⟨(RX11, TX11, 11), rfl, by decide, win_X11, z_t2 123 rfl rfl, rfl⟩
theorem tT_160 : z_T 160 = .inl (6, [(4, 1), (0, 0)]) := rfl
theorem o_X5_numberAt : z_oV yX5_numberAt cX5_numberAt 2 (some .int) 1 := ⟨⟨z_t4 40 rfl rfl, z_t1 8 rfl rfl, by decide +kernel, by decide⟩, z_t4 38 rfl rfl, z_t4 39 rfl rfl⟩
theorem ml_RX11_270 : Cond.methodLink RX11 270 yX5_numberAt ∈ z_tbl := z_t4 37 rfl rfl
theorem o_X6_read : z_oV yX6_read cX6_read 4 none 1 := ⟨⟨z_t3 197 rfl rfl, z_t1 12 rfl rfl, by decide +kernel, by decide⟩, z_t3 195 rfl rfl, z_t3 196 rfl rfl⟩
theorem ml_RX11_231 : Cond.methodLink RX11 231 yX6_read ∈ z_tbl := z_t3 194 rfl rfl
theorem o_X10_fill : z_oV yX10_fill cX10_fill 8 none 4 := ⟨⟨z_t4 172 rfl rfl, z_t1 11 rfl rfl, by decide +kernel, by decide⟩, z_t4 170 rfl rfl, z_t4 171 rfl rfl⟩
theorem ml_RX11_348 : Cond.methodLink RX11 348 yX10_fill ∈ z_tbl := z_t4 169 rfl rfl
theorem fl_RX11_153 : z_FL RX11 153 4 0 := ⟨(RX4, TX4, 7), rfl, by decide, win_X4, z_t1 129 rfl rfl, rfl⟩
theorem fl_RX11_301 : z_FL RX11 301 10 0 := ⟨(RX10, TX10, 4), rfl, by decide, win_X10, z_t2 84 rfl rfl, rfl⟩
theorem ml_RX11_355 : Cond.methodLink RX11 355 yX1_clean ∈ z_tbl := z_t4 232 rfl rfl
theorem ml_RX11_358 : Cond.methodLink RX11 358 yX9_liesAt ∈ z_tbl := z_t4 233 rfl rfl
theorem o_J9_floorDiv_f86c9 : z_oS yJ9_floorDiv_f86c9 cJ9_floorDiv_f86c9 6 (some .long) 2 := ⟨⟨z_t4 236 rfl rfl, z_t1 21 rfl rfl, by decide +kernel, by decide⟩, z_t4 235 rfl rfl⟩
theorem ml_RX11_361 : Cond.methodLink RX11 361 yJ9_floorDiv_f86c9 ∈ z_tbl := z_t4 234 rfl rfl
theorem o_X11_checkBest : z_oV yX11_checkBest cX11_checkBest 1 none 0 := ⟨⟨z_t4 163 rfl rfl, z_t1 1 rfl rfl, by decide +kernel, by decide⟩, z_t4 162 rfl rfl, z_t0 (by decide +kernel) rfl⟩
theorem ml_RX11_118 : Cond.methodLink RX11 118 yX11_checkBest ∈ z_tbl := z_t4 160 rfl rfl
theorem o_X11_readyTrack : z_oV yX11_readyTrack cX11_readyTrack 1 none 0 := ⟨⟨z_t4 168 rfl rfl, z_t1 1 rfl rfl, by decide +kernel, by decide⟩, z_t4 167 rfl rfl, z_t0 (by decide +kernel) rfl⟩
theorem ml_RX11_121 : Cond.methodLink RX11 121 yX11_readyTrack ∈ z_tbl := z_t4 165 rfl rfl
theorem o_X11_meanAbove : z_oV yX11_meanAbove cX11_meanAbove 6 (some .long) 1 := ⟨⟨z_t4 231 rfl rfl, z_t1 1 rfl rfl, by decide +kernel, by decide⟩, z_t4 230 rfl rfl, z_t0 (by decide +kernel) rfl⟩
theorem ml_RX11_124 : Cond.methodLink RX11 124 yX11_meanAbove ∈ z_tbl := z_t4 228 rfl rfl
theorem kc_RX11_128 : Cond.constantLong RX11 128 (-30000) ∈ z_tbl := z_t4 237 rfl rfl
theorem kc_RX11_130 : Cond.constantLong RX11 130 (30000) ∈ z_tbl := z_t4 238 rfl rfl
theorem ml_RX11_132 : Cond.methodLink RX11 132 Lib.MathLoose.min_long.x ∈ z_tbl := z_t4 29 rfl rfl
theorem ml_RX11_138 : Cond.methodLink RX11 138 Lib.MathLoose.max_long.x ∈ z_tbl := z_t4 239 rfl rfl
theorem o_X5_leastWeight : z_oV yX5_leastWeight cX5_leastWeight 1 (some .long) 0 := ⟨⟨z_t4 104 rfl rfl, z_t1 8 rfl rfl, by decide +kernel, by decide⟩, z_t4 102 rfl rfl, z_t4 103 rfl rfl⟩
theorem ml_RX11_144 : Cond.methodLink RX11 144 yX5_leastWeight ∈ z_tbl := z_t4 101 rfl rfl
theorem fl_RX11_148 : z_FL RX11 148 4 1 := ⟨(RX4, TX4, 7), rfl, by decide, win_X4, z_t1 132 rfl rfl, rfl⟩
theorem fl_RX11_157 : z_FL RX11 157 9 0 := ⟨(RX9, TX9, 6), rfl, by decide, win_X9, z_t1 73 rfl rfl, rfl⟩
theorem fl_RX11_163 : z_FL RX11 163 9 1 := ⟨(RX9, TX9, 6), rfl, by decide, win_X9, z_t1 76 rfl rfl, rfl⟩
theorem fp_RX11_163 : z_FP RX11 163 9 1 .int := ⟨fl_RX11_163, fc_X9, (RX9, TX9, 6), rfl, rfl, by decide +kernel⟩
theorem fp_RX11_148 : z_FP RX11 148 4 1 .int := ⟨fl_RX11_148, fc_X4, (RX4, TX4, 7), rfl, rfl, by decide +kernel⟩
theorem fl_RX11_166 : z_FL RX11 166 9 5 := ⟨(RX9, TX9, 6), rfl, by decide, win_X9, z_t1 82 rfl rfl, rfl⟩
theorem o_X9_ask : z_oV yX9_ask cX9_ask 4 none 3 := ⟨⟨z_t3 70 rfl rfl, z_t1 4 rfl rfl, by decide +kernel, by decide⟩, z_t3 68 rfl rfl, z_t3 69 rfl rfl⟩
theorem ml_RX11_171 : Cond.methodLink RX11 171 yX9_ask ∈ z_tbl := z_t3 67 rfl rfl
theorem fl_RX11_174 : z_FL RX11 174 4 6 := ⟨(RX4, TX4, 7), rfl, by decide, win_X4, z_t1 144 rfl rfl, rfl⟩
theorem fl_RX11_179 : z_FL RX11 179 4 5 := ⟨(RX4, TX4, 7), rfl, by decide, win_X4, z_t1 142 rfl rfl, rfl⟩
theorem fp_RX11_174 : z_FP RX11 174 4 6 .int := ⟨fl_RX11_174, fc_X4, (RX4, TX4, 7), rfl, rfl, by decide +kernel⟩
theorem o_X4_textCanBeSaid : z_oV yX4_textCanBeSaid cX4_textCanBeSaid 2 (some .boolean) 0 := ⟨⟨z_t3 83 rfl rfl, z_t1 3 rfl rfl, by decide +kernel, by decide⟩, z_t3 81 rfl rfl, z_t3 82 rfl rfl⟩
theorem ml_RX11_182 : Cond.methodLink RX11 182 yX4_textCanBeSaid ∈ z_tbl := z_t3 80 rfl rfl
theorem o_X4_addSaying : z_oV yX4_addSaying cX4_addSaying 4 none 2 := ⟨⟨z_t3 88 rfl rfl, z_t1 3 rfl rfl, by decide +kernel, by decide⟩, z_t3 86 rfl rfl, z_t3 87 rfl rfl⟩
theorem ml_RX11_191 : Cond.methodLink RX11 191 yX4_addSaying ∈ z_tbl := z_t3 85 rfl rfl
theorem fp_RX11_186 : z_FP RX11 186 4 4 .int := ⟨fl_RX11_186, fc_X4, (RX4, TX4, 7), rfl, rfl, by decide +kernel⟩
theorem fl_RX11_194 : z_FL RX11 194 4 3 := ⟨(RX4, TX4, 7), rfl, by decide, win_X4, z_t1 137 rfl rfl, rfl⟩
theorem ml_RX11_199 : Cond.methodLink RX11 199 yX4_sayingOf ∈ z_tbl := z_t3 105 rfl rfl
theorem fl_RX11_203 : z_FL RX11 203 7 2 := ⟨(RX7, TX7, 4), rfl, by decide, win_X7, z_t1 112 rfl rfl, rfl⟩
theorem ml_RX11_208 : Cond.methodLink RX11 208 yX4_formAt ∈ z_tbl := z_t3 106 rfl rfl
theorem ml_RX11_212 : Cond.methodLink RX11 212 yX1_costBy ∈ z_tbl := z_t3 122 rfl rfl
theorem kc_RX11_351 : Cond.constantLong RX11 351 (1152921504606846976) ∈ z_tbl := z_t3 184 rfl rfl
theorem kc_RX11_353 : Cond.constantLong RX11 353 (-1) ∈ z_tbl := z_t3 185 rfl rfl
theorem o_X11_readyTable : z_oV yX11_readyTable cX11_readyTable 1 none 0 := ⟨⟨z_t3 141 rfl rfl, z_t1 1 rfl rfl, by decide +kernel, by decide⟩, z_t3 140 rfl rfl, z_t0 (by decide +kernel) rfl⟩
theorem ml_RX11_216 : Cond.methodLink RX11 216 yX11_readyTable ∈ z_tbl := z_t3 138 rfl rfl
theorem ml_RX11_219 : Cond.methodLink RX11 219 yX0_span ∈ z_tbl := z_t3 177 rfl rfl
theorem o_X11_orNone : z_oS yX11_orNone cX11_orNone 2 (some .long) 1 := ⟨⟨z_t3 183 rfl rfl, z_t1 1 rfl rfl, by decide +kernel, by decide⟩, z_t3 182 rfl rfl⟩
theorem ml_RX11_223 : Cond.methodLink RX11 223 yX11_orNone ∈ z_tbl := z_t3 181 rfl rfl
theorem o_X11_checkRow : z_oV yX11_checkRow cX11_checkRow 3 none 1 := ⟨⟨z_t3 193 rfl rfl, z_t1 1 rfl rfl, by decide +kernel, by decide⟩, z_t3 192 rfl rfl, z_t0 (by decide +kernel) rfl⟩
theorem ml_RX11_227 : Cond.methodLink RX11 227 yX11_checkRow ∈ z_tbl := z_t3 190 rfl rfl
theorem fl_RX11_68 : z_FL RX11 68 11 8 := ⟨(RX11, TX11, 11), rfl, by decide, win_X11, z_t2 122 rfl rfl, rfl⟩
theorem tT_158 : z_T 158 = .inl (6, [(4, 1), (0, 0)]) := rfl
theorem fl_RX11_234 : z_FL RX11 234 6 1 := ⟨(RX6, TX6, 2), rfl, by decide, win_X6, z_t2 107 rfl rfl, rfl⟩
theorem ml_RX11_235 : Cond.methodLink RX11 235 yX6_wordAt ∈ z_tbl := z_t3 198 rfl rfl
theorem o_X2_count : z_oV yX2_count cX2_count 3 none 2 := ⟨⟨z_t3 205 rfl rfl, z_t1 6 rfl rfl, by decide +kernel, by decide⟩, z_t3 203 rfl rfl, z_t3 204 rfl rfl⟩
theorem ml_RX11_239 : Cond.methodLink RX11 239 yX2_count ∈ z_tbl := z_t3 202 rfl rfl
theorem fl_RX11_242 : z_FL RX11 242 2 3 := ⟨(RX2, TX2, 6), rfl, by decide, win_X2, z_t1 171 rfl rfl, rfl⟩
theorem kc_RX11_245 : Cond.constant RX11 245 (99999) ∈ z_tbl := z_t3 210 rfl rfl
theorem fl_RX11_246 : z_FL RX11 246 2 4 := ⟨(RX2, TX2, 6), rfl, by decide, win_X2, z_t1 173 rfl rfl, rfl⟩
theorem fp_RX11_246 : z_FP RX11 246 2 4 .int := ⟨fl_RX11_246, fc_X2, (RX2, TX2, 6), rfl, rfl, by decide +kernel⟩
theorem fl_RX11_249 : z_FL RX11 249 2 5 := ⟨(RX2, TX2, 6), rfl, by decide, win_X2, z_t1 176 rfl rfl, rfl⟩
theorem fp_RX11_249 : z_FP RX11 249 2 5 .int := ⟨fl_RX11_249, fc_X2, (RX2, TX2, 6), rfl, rfl, by decide +kernel⟩
theorem o_X11_checkWordOrNone : z_oV yX11_checkWordOrNone cX11_checkWordOrNone 2 none 1 := ⟨⟨z_t3 222 rfl rfl, z_t1 1 rfl rfl, by decide +kernel, by decide⟩, z_t3 221 rfl rfl, z_t0 (by decide +kernel) rfl⟩
theorem ml_RX11_252 : Cond.methodLink RX11 252 yX11_checkWordOrNone ∈ z_tbl := z_t3 219 rfl rfl
theorem ml_RX11_255 : Cond.methodLink RX11 255 yX2_priceOf ∈ z_tbl := z_t3 223 rfl rfl
theorem o_X5_weightOf : z_oV yX5_weightOf cX5_weightOf 4 (some .long) 1 := ⟨⟨z_t4 14 rfl rfl, z_t1 8 rfl rfl, by decide +kernel, by decide⟩, z_t4 12 rfl rfl, z_t4 13 rfl rfl⟩
theorem ml_RX11_259 : Cond.methodLink RX11 259 yX5_weightOf ∈ z_tbl := z_t4 11 rfl rfl
theorem fl_RX11_378 : z_FL RX11 378 0 0 := ⟨(RX0, TX0, 5), rfl, by decide, win_X0, z_t1 200 rfl rfl, rfl⟩
theorem fl_RX11_382 : z_FL RX11 382 7 1 := ⟨(RX7, TX7, 4), rfl, by decide, win_X7, z_t1 107 rfl rfl, rfl⟩
theorem o_X11_trySounds : z_oS yX11_trySounds cX11_trySounds 11 (some .long) 5 := ⟨⟨z_t4 28 rfl rfl, z_t1 1 rfl rfl, by decide +kernel, by decide⟩, z_t4 27 rfl rfl⟩
theorem ml_RX11_374 : Cond.methodLink RX11 374 yX11_trySounds ∈ z_tbl := z_t4 26 rfl rfl
theorem fl_RX11_371 : z_FL RX11 371 7 3 := ⟨(RX7, TX7, 4), rfl, by decide, win_X7, z_t1 117 rfl rfl, rfl⟩
theorem o_X11_tryWords : z_oS yX11_tryWords cX11_tryWords 13 (some .long) 6 := ⟨⟨z_t4 21 rfl rfl, z_t1 1 rfl rfl, by decide +kernel, by decide⟩, z_t4 20 rfl rfl⟩
theorem ml_RX11_262 : Cond.methodLink RX11 262 yX11_tryWords ∈ z_tbl := z_t4 19 rfl rfl
theorem o_X11_trySayings : z_oS yX11_trySayings cX11_trySayings 9 (some .long) 5 := ⟨⟨z_t4 25 rfl rfl, z_t1 1 rfl rfl, by decide +kernel, by decide⟩, z_t4 24 rfl rfl⟩
theorem ml_RX11_367 : Cond.methodLink RX11 367 yX11_trySayings ∈ z_tbl := z_t4 23 rfl rfl
theorem ml_RX11_364 : Cond.methodLink RX11 364 yX0_toll ∈ z_tbl := z_t4 22 rfl rfl
theorem o_X11_checkAtLeast : z_oS yX11_checkAtLeast cX11_checkAtLeast 4 none 2 := ⟨⟨z_t4 36 rfl rfl, z_t1 1 rfl rfl, by decide +kernel, by decide⟩, z_t4 35 rfl rfl⟩
theorem ml_RX11_266 : Cond.methodLink RX11 266 yX11_checkAtLeast ∈ z_tbl := z_t4 34 rfl rfl
theorem fl_RX11_47 : z_FL RX11 47 11 5 := ⟨(RX11, TX11, 11), rfl, by decide, win_X11, z_t2 119 rfl rfl, rfl⟩
theorem o_X8_run : z_oV yX8_run cX8_run 10 none 5 := ⟨⟨z_t4 59 rfl rfl, z_t1 9 rfl rfl, by decide +kernel, by decide⟩, z_t4 57 rfl rfl, z_t4 58 rfl rfl⟩
theorem ml_RX11_273 : Cond.methodLink RX11 273 yX8_run ∈ z_tbl := z_t4 56 rfl rfl
theorem fl_RX11_277 : z_FL RX11 277 8 4 := ⟨(RX8, TX8, 6), rfl, by decide, win_X8, z_t2 33 rfl rfl, rfl⟩
theorem fl_RX11_280 : z_FL RX11 280 8 5 := ⟨(RX8, TX8, 6), rfl, by decide, win_X8, z_t2 35 rfl rfl, rfl⟩
theorem fl_RX11_284 : z_FL RX11 284 8 3 := ⟨(RX8, TX8, 6), rfl, by decide, win_X8, z_t2 31 rfl rfl, rfl⟩
theorem o_X3_fill : z_oV yX3_fill cX3_fill 11 none 4 := ⟨⟨z_t4 108 rfl rfl, z_t1 10 rfl rfl, by decide +kernel, by decide⟩, z_t4 106 rfl rfl, z_t4 107 rfl rfl⟩
theorem ml_RX11_345 : Cond.methodLink RX11 345 yX3_fill ∈ z_tbl := z_t4 105 rfl rfl
theorem o_X11_readyLattice : z_oV yX11_readyLattice cX11_readyLattice 1 none 0 := ⟨⟨z_t4 100 rfl rfl, z_t1 1 rfl rfl, by decide +kernel, by decide⟩, z_t4 99 rfl rfl, z_t0 (by decide +kernel) rfl⟩
theorem ml_RX11_287 : Cond.methodLink RX11 287 yX11_readyLattice ∈ z_tbl := z_t4 97 rfl rfl
theorem o_X3_countWithin : z_oV yX3_countWithin cX3_countWithin 7 (some .int) 1 := ⟨⟨z_t4 134 rfl rfl, z_t1 10 rfl rfl, by decide +kernel, by decide⟩, z_t4 132 rfl rfl, z_t4 133 rfl rfl⟩
theorem ml_RX11_290 : Cond.methodLink RX11 290 yX3_countWithin ∈ z_tbl := z_t4 131 rfl rfl
theorem o_X3_tellWithin : z_oV yX3_tellWithin cX3_tellWithin 9 (some .long) 3 := ⟨⟨z_t4 146 rfl rfl, z_t1 10 rfl rfl, by decide +kernel, by decide⟩, z_t4 144 rfl rfl, z_t4 145 rfl rfl⟩
theorem ml_RX11_294 : Cond.methodLink RX11 294 yX3_tellWithin ∈ z_tbl := z_t4 143 rfl rfl
theorem o_X3_leastSlackOf : z_oV yX3_leastSlackOf cX3_leastSlackOf 6 (some .long) 1 := ⟨⟨z_t4 155 rfl rfl, z_t1 10 rfl rfl, by decide +kernel, by decide⟩, z_t4 153 rfl rfl, z_t4 154 rfl rfl⟩
theorem ml_RX11_298 : Cond.methodLink RX11 298 yX3_leastSlackOf ∈ z_tbl := z_t4 152 rfl rfl
theorem o_X3_countAround : z_oV yX3_countAround cX3_countAround 10 (some .int) 3 := ⟨⟨z_t4 202 rfl rfl, z_t1 10 rfl rfl, by decide +kernel, by decide⟩, z_t4 200 rfl rfl, z_t4 201 rfl rfl⟩
theorem ml_RX11_304 : Cond.methodLink RX11 304 yX3_countAround ∈ z_tbl := z_t4 199 rfl rfl
theorem o_X11_partBits : z_oS yX11_partBits cX11_partBits 5 (some .int) 2 := ⟨⟨z_t4 205 rfl rfl, z_t1 1 rfl rfl, by decide +kernel, by decide⟩, z_t4 204 rfl rfl⟩
theorem ml_RX11_308 : Cond.methodLink RX11 308 yX11_partBits ∈ z_tbl := z_t4 203 rfl rfl
theorem fl_RX11_77 : z_FL RX11 77 11 10 := ⟨(RX11, TX11, 11), rfl, by decide, win_X11, z_t2 124 rfl rfl, rfl⟩
theorem tT_162 : z_T 162 = .inr (4, 3, 5, 1, 1) := rfl
theorem z_row_162 {i : Int} (h : 0 ≤ i ∧ i < 5) : z_isArr (163 + i) 0 0 5 := z_isArr_of (b := 163) (n := 5) (by decide) (fun j hj => match j, hj with | 0, _ => rfl | 1, _ => rfl | 2, _ => rfl | 3, _ => rfl | 4, _ => rfl | _ + 5, h => absurd h (by omega)) h
theorem ml_RX11_389 : Cond.methodLink RX11 389 Lib.Math.min.name ∈ z_tbl := z_t4 223 rfl rfl
theorem o_X11_changesHere : z_oV yX11_changesHere cX11_changesHere 7 (some .int) 4 := ⟨⟨z_t4 222 rfl rfl, z_t1 1 rfl rfl, by decide +kernel, by decide⟩, z_t4 221 rfl rfl, z_t0 (by decide +kernel) rfl⟩
theorem ml_RX11_385 : Cond.methodLink RX11 385 yX11_changesHere ∈ z_tbl := z_t4 219 rfl rfl
theorem o_X11_fewestChanges : z_oV yX11_fewestChanges cX11_fewestChanges 5 (some .int) 2 := ⟨⟨z_t4 218 rfl rfl, z_t1 1 rfl rfl, by decide +kernel, by decide⟩, z_t4 217 rfl rfl, z_t0 (by decide +kernel) rfl⟩
theorem ml_RX11_312 : Cond.methodLink RX11 312 yX11_fewestChanges ∈ z_tbl := z_t4 215 rfl rfl
