-- THE CONSTRUCTORS (laid by wip/gen32/ctors.py)
def z_L0 : List z_Ty := [.inl (11, [(5, 0), (5, 0), (5, 0), (5, 0), (5, 0), (5, 0), (5, 0), (5, 0), (5, 0), (5, 0), (5, 0)]),
  .inl (1, [(5, 0), (5, 0), (0, 0), (0, 0)]),
  .inr (4, 3, 16, 1, 1),
  .inr (0, 0, 3, 0, 0),
  .inr (0, 0, 3, 0, 0),
  .inr (0, 0, 3, 0, 0),
  .inr (0, 0, 3, 0, 0),
  .inr (0, 0, 3, 0, 0),
  .inr (0, 0, 3, 0, 0),
  .inr (0, 0, 3, 0, 0),
  .inr (0, 0, 3, 0, 0),
  .inr (0, 0, 3, 0, 0),
  .inr (0, 0, 3, 0, 0),
  .inr (0, 0, 3, 0, 0),
  .inr (0, 0, 3, 0, 0),
  .inr (0, 0, 3, 0, 0),
  .inr (0, 0, 3, 0, 0),
  .inr (0, 0, 3, 0, 0),
  .inr (0, 0, 3, 0, 0),
  .inr (4, 3, 4, 1, 1),
  .inr (0, 0, 3, 0, 0),
  .inr (0, 0, 3, 0, 0),
  .inr (0, 0, 3, 0, 0),
  .inr (0, 0, 3, 0, 0),
  .inl (4, [(5, 0), (0, 0), (5, 0), (5, 0), (0, 0), (5, 0), (0, 0)]),
  .inr (6, 5, 6, 4, 5),
  .inr (6, 6, 10, 33, 3),
  .inr (0, 0, 5, 0, 0),
  .inr (0, 0, 4, 0, 0),
  .inl (9, [(5, 0), (0, 0), (5, 0), (5, 0), (5, 0), (0, 0)]),
  .inr (0, 0, 3, 0, 0),
  .inr (0, 0, 3, 0, 0),
  .inr (0, 0, 3, 0, 0),
  .inr (0, 0, 3, 0, 0),
  .inl (9, [(5, 0), (0, 0), (5, 0), (5, 0), (5, 0), (0, 0)]),
  .inr (0, 0, 3, 0, 0),
  .inr (0, 0, 3, 0, 0),
  .inr (0, 0, 3, 0, 0),
  .inr (0, 0, 3, 0, 0),
  .inl (9, [(5, 0), (0, 0), (5, 0), (5, 0), (5, 0), (0, 0)]),
  .inr (0, 0, 3, 0, 0),
  .inr (0, 0, 3, 0, 0),
  .inr (0, 0, 3, 0, 0),
  .inr (0, 0, 3, 0, 0),
  .inl (9, [(5, 0), (0, 0), (5, 0), (5, 0), (5, 0), (0, 0)]),
  .inr (0, 0, 3, 0, 0),
  .inr (0, 0, 3, 0, 0),
  .inr (0, 0, 3, 0, 0),
  .inr (0, 0, 3, 0, 0),
  .inl (9, [(5, 0), (0, 0), (5, 0), (5, 0), (5, 0), (0, 0)]),
  .inr (0, 0, 3, 0, 0),
  .inr (0, 0, 3, 0, 0),
  .inr (0, 0, 3, 0, 0),
  .inr (0, 0, 3, 0, 0),
  .inl (9, [(5, 0), (0, 0), (5, 0), (5, 0), (5, 0), (0, 0)]),
  .inr (0, 0, 3, 0, 0),
  .inr (0, 0, 3, 0, 0),
  .inr (0, 0, 3, 0, 0),
  .inr (0, 0, 3, 0, 0),
  .inl (7, [(5, 0), (5, 0), (0, 0), (0, 0)]),
  .inr (0, 0, 4, 0, 0),
  .inr (0, 0, 4, 0, 0),
  .inl (7, [(5, 0), (5, 0), (0, 0), (0, 0)]),
  .inr (0, 0, 4, 0, 0),
  .inr (0, 0, 4, 0, 0),
  .inl (7, [(5, 0), (5, 0), (0, 0), (0, 0)]),
  .inr (0, 0, 4, 0, 0),
  .inr (0, 0, 4, 0, 0),
  .inl (7, [(5, 0), (5, 0), (0, 0), (0, 0)]),
  .inr (0, 0, 4, 0, 0),
  .inr (0, 0, 4, 0, 0),
  .inl (7, [(5, 0), (5, 0), (0, 0), (0, 0)]),
  .inr (0, 0, 4, 0, 0),
  .inr (0, 0, 4, 0, 0),
  .inl (7, [(5, 0), (5, 0), (0, 0), (0, 0)]),
  .inr (0, 0, 4, 0, 0),
  .inr (0, 0, 4, 0, 0),
  .inl (7, [(5, 0), (5, 0), (0, 0), (0, 0)]),
  .inr (0, 0, 4, 0, 0),
  .inr (0, 0, 4, 0, 0),
  .inl (7, [(5, 0), (5, 0), (0, 0), (0, 0)]),
  .inr (0, 0, 4, 0, 0),
  .inr (0, 0, 4, 0, 0),
  .inl (7, [(5, 0), (5, 0), (0, 0), (0, 0)]),
  .inr (0, 0, 4, 0, 0),
  .inr (0, 0, 4, 0, 0),
  .inl (7, [(5, 0), (5, 0), (0, 0), (0, 0)]),
  .inr (0, 0, 4, 0, 0),
  .inr (0, 0, 4, 0, 0),
  .inl (2, [(5, 0), (5, 0), (5, 0), (0, 0), (0, 0), (0, 0)]),
  .inr (4, 3, 6, 1, 1),
  .inr (0, 0, 6, 0, 0),
  .inr (0, 0, 6, 0, 0),
  .inr (0, 0, 6, 0, 0),
  .inr (0, 0, 6, 0, 0),
  .inr (0, 0, 6, 0, 0),
  .inr (0, 0, 6, 0, 0),
  .inr (0, 0, 6, 0, 0),
  .inr (0, 0, 6, 0, 0),
  .inl (0, [(5, 0), (5, 0), (5, 0), (5, 0), (2, 0)]),
  .inr (4, 4, 24, 1, 1),
  .inr (1, 1, 16, 0, 0),
  .inr (1, 1, 16, 0, 0),
  .inr (1, 1, 16, 0, 0),
  .inr (1, 1, 16, 0, 0),
  .inr (1, 1, 16, 0, 0),
  .inr (1, 1, 16, 0, 0),
  .inr (1, 1, 16, 0, 0),
  .inr (1, 1, 16, 0, 0),
  .inr (1, 1, 16, 0, 0),
  .inr (1, 1, 16, 0, 0),
  .inr (1, 1, 16, 0, 0),
  .inr (1, 1, 16, 0, 0),
  .inr (1, 1, 16, 0, 0),
  .inr (1, 1, 16, 0, 0),
  .inr (1, 1, 16, 0, 0),
  .inr (1, 1, 16, 0, 0),
  .inr (1, 1, 16, 0, 0),
  .inr (1, 1, 16, 0, 0),
  .inr (1, 1, 16, 0, 0),
  .inr (1, 1, 16, 0, 0),
  .inr (1, 1, 16, 0, 0),
  .inr (1, 1, 16, 0, 0),
  .inr (1, 1, 16, 0, 0),
  .inr (1, 1, 16, 0, 0),
  .inr (1, 1, 1445, 0, 0),
  .inr (4, 4, 6, 1, 1),
  .inr (1, 1, 6, 0, 0),
  .inr (1, 1, 6, 0, 0),
  .inr (1, 1, 6, 0, 0),
  .inr (1, 1, 6, 0, 0),
  .inr (1, 1, 6, 0, 0),
  .inr (1, 1, 6, 0, 0),
  .inr (1, 1, 4, 0, 0),
  .inl (5, [(5, 0), (5, 0), (5, 0), (5, 0), (5, 0), (0, 0), (0, 0), (0, 0), (0, 0), (2, 0), (2, 0)]),
  .inr (0, 0, 780, 0, 0),
  .inr (1, 1, 780, 0, 0),
  .inr (1, 1, 2635, 0, 0),
  .inr (0, 0, 780, 0, 0),
  .inr (0, 0, 780, 0, 0),
  .inl (8, [(5, 0), (5, 0), (5, 0), (0, 0), (0, 0), (1, 0)]),
  .inr (1, 1, 340, 0, 0),
  .inr (0, 0, 340, 0, 0),
  .inr (2, 2, 20, 0, 0),
  .inl (3, [(5, 0), (5, 0), (5, 0), (0, 0), (0, 0), (2, 0)]),
  .inr (1, 1, 1445, 0, 0),
  .inr (1, 1, 340, 0, 0),
  .inr (1, 1, 340, 0, 0),
  .inl (10, [(5, 0), (5, 0), (5, 0), (2, 0)]),
  .inr (4, 3, 6, 1, 1),
  .inr (0, 0, 16, 0, 0),
  .inr (0, 0, 16, 0, 0),
  .inr (0, 0, 16, 0, 0),
  .inr (0, 0, 16, 0, 0),
  .inr (0, 0, 16, 0, 0),
  .inr (0, 0, 16, 0, 0),
  .inr (1, 1, 85, 0, 0),
  .inr (1, 1, 85, 0, 0),
  .inl (6, [(5, 0), (0, 0)]),
  .inr (0, 0, 4, 0, 0),
  .inl (6, [(5, 0), (0, 0)]),
  .inr (0, 0, 4, 0, 0),
  .inr (4, 3, 5, 1, 1),
  .inr (0, 0, 5, 0, 0),
  .inr (0, 0, 5, 0, 0),
  .inr (0, 0, 5, 0, 0),
  .inr (0, 0, 5, 0, 0),
  .inr (0, 0, 5, 0, 0)]
def z_T0 (k : Nat) : z_Ty := z_L0.getD k (.inl (99, []))
def z_Tr (T : Nat → z_Ty) (a c : Nat) : Nat → z_Ty := fun j => if a ≤ j ∧ j < c then z_T j else T j
theorem z_Tu_uu {T : Nat → z_Ty} {k : Nat} {s t : z_Ty} : z_Tu (z_Tu T k s) k t = z_Tu T k t := by
  funext j; unfold z_Tu; split <;> rfl
theorem z_Tr_tr {T : Nat → z_Ty} {a c d : Nat} (h1 : a ≤ c) (h2 : c ≤ d) : z_Tr (z_Tr T a c) c d = z_Tr T a d := by
  funext j
  unfold z_Tr
  by_cases q1 : c ≤ j ∧ j < d
  · rw [if_pos q1, if_pos (by omega)]
  · rw [if_neg q1]
    by_cases q2 : a ≤ j ∧ j < c
    · rw [if_pos q2, if_pos (by omega)]
    · rw [if_neg q2, if_neg (by omega)]
theorem z_Tr_Tu {T : Nat → z_Ty} {a c k : Nat} {t : z_Ty} (h : ¬ (a ≤ k ∧ k < c)) : z_Tr (z_Tu T k t) a c = z_Tu (z_Tr T a c) k t := by
  funext j
  unfold z_Tr z_Tu
  by_cases q : j = k
  · subst q; rw [if_neg h, if_pos rfl, if_pos rfl]
  · rw [if_neg q, if_neg q]
theorem z_Tr_0 {T : Nat → z_Ty} {a : Nat} : z_Tr T a a = T := by
  funext j; unfold z_Tr; rw [if_neg (by omega)]
theorem z_st_up {st : z_St} {M i j v : Int} (h : ∀ x y : Int, M ≤ x → st x y = 0) (hi : i < M) : ∀ x y : Int, M ≤ x → z_up st i j v x y = 0 := fun x y hx => by
  rw [z_up_n (by omega)]; exact h x y hx
theorem z_st_le {st : z_St} {M M' : Int} (h : ∀ x y : Int, M ≤ x → st x y = 0) (hi : M ≤ M') : ∀ x y : Int, M' ≤ x → st x y = 0 := fun x y hx => h x y (by omega)
theorem zo_1 : Cond.instanceMethod Lib.objectInit ∈ z_tbl := z_t1 28 rfl rfl
theorem zo_2 : Cond.code Lib.objectInit ⟨#[0xb1]⟩ 1 none ∈ z_tbl := z_t1 29 rfl rfl
theorem zb_ABle {κ : zK} {b N N2 : Nat} (h : z_AB κ b N) (h2 : ∀ q : Nat, b + N ≤ q → match κ with | (_, _, _, _, _, _, _, _, _, _, _, A, _, _, _) => A q) (_ : N ≤ N2) : z_AB κ b N2 := by
  obtain ⟨p, l, e, R, s, m, args, below, meth, c, Q, A, D, cA, nL⟩ := κ
  intro k hk
  by_cases q : k < N
  · exact h k q
  · exact h2 (b + k) (by omega)
theorem zrow0 {T : Nat → z_Ty} {N n i a m : Nat} {t : z_Ty} (h1 : a ≤ N + 1) (h2 : N + 1 + n ≤ a + m) (hi : i < n) (hT : ∀ j, a ≤ j → j < a + m → T j = z_T0 j) (hz : ∀ i, i < n → z_T0 (N + 1 + i) = t) : T (N + 1 + i) = t := (hT _ (by omega) (by omega)).trans (hz i hi)
theorem fl_RX1_19 : z_FL RX1 19 1 2 := ⟨(RX1, TX1, 4), rfl, by decide, win_X1, z_t1 42 rfl rfl, rfl⟩
theorem fl_RX9_15 : z_FL RX9 15 9 1 := ⟨(RX9, TX9, 6), rfl, by decide, win_X9, z_t1 74 rfl rfl, rfl⟩
theorem fl_RX7_15 : z_FL RX7 15 7 1 := ⟨(RX7, TX7, 4), rfl, by decide, win_X7, z_t1 104 rfl rfl, rfl⟩
theorem fl_RX7_22 : z_FL RX7 22 7 3 := ⟨(RX7, TX7, 4), rfl, by decide, win_X7, z_t1 113 rfl rfl, rfl⟩
theorem fl_RX4_31 : z_FL RX4 31 4 4 := ⟨(RX4, TX4, 7), rfl, by decide, win_X4, z_t1 138 rfl rfl, rfl⟩
theorem fl_RX2_30 : z_FL RX2 30 2 5 := ⟨(RX2, TX2, 6), rfl, by decide, win_X2, z_t1 174 rfl rfl, rfl⟩
theorem zr_2 : ∀ i, i < 16 → z_T0 (2 + 1 + i) = .inr (0, 0, 3, 0, 0) := fun i hi => match i, hi with | 0, _ => rfl | 1, _ => rfl | 2, _ => rfl | 3, _ => rfl | 4, _ => rfl | 5, _ => rfl | 6, _ => rfl | 7, _ => rfl | 8, _ => rfl | 9, _ => rfl | 10, _ => rfl | 11, _ => rfl | 12, _ => rfl | 13, _ => rfl | 14, _ => rfl | 15, _ => rfl | _ + 16, h => absurd h (by omega)
theorem zr_19 : ∀ i, i < 4 → z_T0 (19 + 1 + i) = .inr (0, 0, 3, 0, 0) := fun i hi => match i, hi with | 0, _ => rfl | 1, _ => rfl | 2, _ => rfl | 3, _ => rfl | _ + 4, h => absurd h (by omega)
theorem zn_RX4_9 : ∃ q : vw_C, vwCl[9]? = some q ∧ q.2.2 = 6 ∧ Cond.classLink RX4 9 q.1 ∈ z_tbl ∧ Cond.instantiable q.1 6 ∈ z_tbl ∧ Cond.initialized q.1 ∈ z_tbl ∧ (∀ w ∈ u_ws q.1 q.2.1 q.2.2, w ∈ z_tbl) ∧ ∃ ty : Nat → FieldType, (∀ k, k < q.2.2 → parseFieldDescriptor (q.2.1 k).2.2.1 = some (ty k)) ∧ ∀ j, j < q.2.2 → defaultValue (ty j) = vp_V (z_fs (z_at 0) 0 [(5, 0), (0, 0), (5, 0), (5, 0), (5, 0), (0, 0)] (fun _ => 0)) j := ⟨(RX9, TX9, 6), rfl, rfl, z_t1 63 rfl rfl, z_t1 67 rfl rfl, z_t1 4 rfl rfl, win_X9, tyX9, tyX9_ok, fun j hj => match j, hj with | 0, _ => rfl | 1, _ => rfl | 2, _ => rfl | 3, _ => rfl | 4, _ => rfl | 5, _ => rfl | _ + 6, h => absurd h (by show ¬ _ < 6; omega)⟩
theorem zsub_29 : ∀ i, i < 4 → z_T0 (29 + 1 + i) = .inr (0, 0, 3, 0, 0) ∧ z_T (29 + 1 + i) = .inr (0, 0, 3, 0, 0) := fun i hi => match i, hi with | 0, _ => ⟨rfl, rfl⟩ | 1, _ => ⟨rfl, rfl⟩ | 2, _ => ⟨rfl, rfl⟩ | 3, _ => ⟨rfl, rfl⟩ | _ + 4, h => absurd h (by omega)
theorem zsub_34 : ∀ i, i < 4 → z_T0 (34 + 1 + i) = .inr (0, 0, 3, 0, 0) ∧ z_T (34 + 1 + i) = .inr (0, 0, 3, 0, 0) := fun i hi => match i, hi with | 0, _ => ⟨rfl, rfl⟩ | 1, _ => ⟨rfl, rfl⟩ | 2, _ => ⟨rfl, rfl⟩ | 3, _ => ⟨rfl, rfl⟩ | _ + 4, h => absurd h (by omega)
theorem zsub_39 : ∀ i, i < 4 → z_T0 (39 + 1 + i) = .inr (0, 0, 3, 0, 0) ∧ z_T (39 + 1 + i) = .inr (0, 0, 3, 0, 0) := fun i hi => match i, hi with | 0, _ => ⟨rfl, rfl⟩ | 1, _ => ⟨rfl, rfl⟩ | 2, _ => ⟨rfl, rfl⟩ | 3, _ => ⟨rfl, rfl⟩ | _ + 4, h => absurd h (by omega)
theorem zsub_44 : ∀ i, i < 4 → z_T0 (44 + 1 + i) = .inr (0, 0, 3, 0, 0) ∧ z_T (44 + 1 + i) = .inr (0, 0, 3, 0, 0) := fun i hi => match i, hi with | 0, _ => ⟨rfl, rfl⟩ | 1, _ => ⟨rfl, rfl⟩ | 2, _ => ⟨rfl, rfl⟩ | 3, _ => ⟨rfl, rfl⟩ | _ + 4, h => absurd h (by omega)
theorem zsub_49 : ∀ i, i < 4 → z_T0 (49 + 1 + i) = .inr (0, 0, 3, 0, 0) ∧ z_T (49 + 1 + i) = .inr (0, 0, 3, 0, 0) := fun i hi => match i, hi with | 0, _ => ⟨rfl, rfl⟩ | 1, _ => ⟨rfl, rfl⟩ | 2, _ => ⟨rfl, rfl⟩ | 3, _ => ⟨rfl, rfl⟩ | _ + 4, h => absurd h (by omega)
theorem zsub_54 : ∀ i, i < 4 → z_T0 (54 + 1 + i) = .inr (0, 0, 3, 0, 0) ∧ z_T (54 + 1 + i) = .inr (0, 0, 3, 0, 0) := fun i hi => match i, hi with | 0, _ => ⟨rfl, rfl⟩ | 1, _ => ⟨rfl, rfl⟩ | 2, _ => ⟨rfl, rfl⟩ | 3, _ => ⟨rfl, rfl⟩ | _ + 4, h => absurd h (by omega)
theorem zn_RX4_21 : ∃ q : vw_C, vwCl[7]? = some q ∧ q.2.2 = 4 ∧ Cond.classLink RX4 21 q.1 ∈ z_tbl ∧ Cond.instantiable q.1 4 ∈ z_tbl ∧ Cond.initialized q.1 ∈ z_tbl ∧ (∀ w ∈ u_ws q.1 q.2.1 q.2.2, w ∈ z_tbl) ∧ ∃ ty : Nat → FieldType, (∀ k, k < q.2.2 → parseFieldDescriptor (q.2.1 k).2.2.1 = some (ty k)) ∧ ∀ j, j < q.2.2 → defaultValue (ty j) = vp_V (z_fs (z_at 0) 0 [(5, 0), (5, 0), (0, 0), (0, 0)] (fun _ => 0)) j := ⟨(RX7, TX7, 4), rfl, rfl, z_t1 65 rfl rfl, z_t1 96 rfl rfl, z_t1 5 rfl rfl, win_X7, tyX7, tyX7_ok, fun j hj => match j, hj with | 0, _ => rfl | 1, _ => rfl | 2, _ => rfl | 3, _ => rfl | _ + 4, h => absurd h (by show ¬ _ < 4; omega)⟩
theorem zsub_59 : ∀ i, i < 2 → z_T0 (59 + 1 + i) = .inr (0, 0, 4, 0, 0) ∧ z_T (59 + 1 + i) = .inr (0, 0, 4, 0, 0) := fun i hi => match i, hi with | 0, _ => ⟨rfl, rfl⟩ | 1, _ => ⟨rfl, rfl⟩ | _ + 2, h => absurd h (by omega)
theorem zsub_62 : ∀ i, i < 2 → z_T0 (62 + 1 + i) = .inr (0, 0, 4, 0, 0) ∧ z_T (62 + 1 + i) = .inr (0, 0, 4, 0, 0) := fun i hi => match i, hi with | 0, _ => ⟨rfl, rfl⟩ | 1, _ => ⟨rfl, rfl⟩ | _ + 2, h => absurd h (by omega)
theorem zsub_65 : ∀ i, i < 2 → z_T0 (65 + 1 + i) = .inr (0, 0, 4, 0, 0) ∧ z_T (65 + 1 + i) = .inr (0, 0, 4, 0, 0) := fun i hi => match i, hi with | 0, _ => ⟨rfl, rfl⟩ | 1, _ => ⟨rfl, rfl⟩ | _ + 2, h => absurd h (by omega)
theorem zsub_68 : ∀ i, i < 2 → z_T0 (68 + 1 + i) = .inr (0, 0, 4, 0, 0) ∧ z_T (68 + 1 + i) = .inr (0, 0, 4, 0, 0) := fun i hi => match i, hi with | 0, _ => ⟨rfl, rfl⟩ | 1, _ => ⟨rfl, rfl⟩ | _ + 2, h => absurd h (by omega)
theorem zsub_71 : ∀ i, i < 2 → z_T0 (71 + 1 + i) = .inr (0, 0, 4, 0, 0) ∧ z_T (71 + 1 + i) = .inr (0, 0, 4, 0, 0) := fun i hi => match i, hi with | 0, _ => ⟨rfl, rfl⟩ | 1, _ => ⟨rfl, rfl⟩ | _ + 2, h => absurd h (by omega)
theorem zsub_74 : ∀ i, i < 2 → z_T0 (74 + 1 + i) = .inr (0, 0, 4, 0, 0) ∧ z_T (74 + 1 + i) = .inr (0, 0, 4, 0, 0) := fun i hi => match i, hi with | 0, _ => ⟨rfl, rfl⟩ | 1, _ => ⟨rfl, rfl⟩ | _ + 2, h => absurd h (by omega)
theorem zsub_77 : ∀ i, i < 2 → z_T0 (77 + 1 + i) = .inr (0, 0, 4, 0, 0) ∧ z_T (77 + 1 + i) = .inr (0, 0, 4, 0, 0) := fun i hi => match i, hi with | 0, _ => ⟨rfl, rfl⟩ | 1, _ => ⟨rfl, rfl⟩ | _ + 2, h => absurd h (by omega)
theorem zsub_80 : ∀ i, i < 2 → z_T0 (80 + 1 + i) = .inr (0, 0, 4, 0, 0) ∧ z_T (80 + 1 + i) = .inr (0, 0, 4, 0, 0) := fun i hi => match i, hi with | 0, _ => ⟨rfl, rfl⟩ | 1, _ => ⟨rfl, rfl⟩ | _ + 2, h => absurd h (by omega)
theorem zsub_83 : ∀ i, i < 2 → z_T0 (83 + 1 + i) = .inr (0, 0, 4, 0, 0) ∧ z_T (83 + 1 + i) = .inr (0, 0, 4, 0, 0) := fun i hi => match i, hi with | 0, _ => ⟨rfl, rfl⟩ | 1, _ => ⟨rfl, rfl⟩ | _ + 2, h => absurd h (by omega)
theorem zsub_86 : ∀ i, i < 2 → z_T0 (86 + 1 + i) = .inr (0, 0, 4, 0, 0) ∧ z_T (86 + 1 + i) = .inr (0, 0, 4, 0, 0) := fun i hi => match i, hi with | 0, _ => ⟨rfl, rfl⟩ | 1, _ => ⟨rfl, rfl⟩ | _ + 2, h => absurd h (by omega)
theorem zr_90 : ∀ i, i < 6 → z_T0 (90 + 1 + i) = .inr (0, 0, 6, 0, 0) := fun i hi => match i, hi with | 0, _ => rfl | 1, _ => rfl | 2, _ => rfl | 3, _ => rfl | 4, _ => rfl | 5, _ => rfl | _ + 6, h => absurd h (by omega)
theorem zr_100 : ∀ i, i < 24 → z_T0 (100 + 1 + i) = .inr (1, 1, 16, 0, 0) := fun i hi => match i, hi with | 0, _ => rfl | 1, _ => rfl | 2, _ => rfl | 3, _ => rfl | 4, _ => rfl | 5, _ => rfl | 6, _ => rfl | 7, _ => rfl | 8, _ => rfl | 9, _ => rfl | 10, _ => rfl | 11, _ => rfl | 12, _ => rfl | 13, _ => rfl | 14, _ => rfl | 15, _ => rfl | 16, _ => rfl | 17, _ => rfl | 18, _ => rfl | 19, _ => rfl | 20, _ => rfl | 21, _ => rfl | 22, _ => rfl | 23, _ => rfl | _ + 24, h => absurd h (by omega)
theorem zr_126 : ∀ i, i < 6 → z_T0 (126 + 1 + i) = .inr (1, 1, 6, 0, 0) := fun i hi => match i, hi with | 0, _ => rfl | 1, _ => rfl | 2, _ => rfl | 3, _ => rfl | 4, _ => rfl | 5, _ => rfl | _ + 6, h => absurd h (by omega)
theorem zr_149 : ∀ i, i < 6 → z_T0 (149 + 1 + i) = .inr (0, 0, 16, 0, 0) := fun i hi => match i, hi with | 0, _ => rfl | 1, _ => rfl | 2, _ => rfl | 3, _ => rfl | 4, _ => rfl | 5, _ => rfl | _ + 6, h => absurd h (by omega)
theorem zn_RX11_9 : ∃ q : vw_C, vwCl[1]? = some q ∧ q.2.2 = 4 ∧ Cond.classLink RX11 9 q.1 ∈ z_tbl ∧ Cond.instantiable q.1 4 ∈ z_tbl ∧ Cond.initialized q.1 ∈ z_tbl ∧ (∀ w ∈ u_ws q.1 q.2.1 q.2.2, w ∈ z_tbl) ∧ ∃ ty : Nat → FieldType, (∀ k, k < q.2.2 → parseFieldDescriptor (q.2.1 k).2.2.1 = some (ty k)) ∧ ∀ j, j < q.2.2 → defaultValue (ty j) = vp_V (z_fs (z_at 0) 0 [(5, 0), (5, 0), (0, 0), (0, 0)] (fun _ => 0)) j := ⟨(RX1, TX1, 4), rfl, rfl, z_t1 30 rfl rfl, z_t1 31 rfl rfl, z_t1 2 rfl rfl, win_X1, tyX1, tyX1_ok, fun j hj => match j, hj with | 0, _ => rfl | 1, _ => rfl | 2, _ => rfl | 3, _ => rfl | _ + 4, h => absurd h (by show ¬ _ < 4; omega)⟩
theorem zn_RX11_16 : ∃ q : vw_C, vwCl[4]? = some q ∧ q.2.2 = 7 ∧ Cond.classLink RX11 16 q.1 ∈ z_tbl ∧ Cond.instantiable q.1 7 ∈ z_tbl ∧ Cond.initialized q.1 ∈ z_tbl ∧ (∀ w ∈ u_ws q.1 q.2.1 q.2.2, w ∈ z_tbl) ∧ ∃ ty : Nat → FieldType, (∀ k, k < q.2.2 → parseFieldDescriptor (q.2.1 k).2.2.1 = some (ty k)) ∧ ∀ j, j < q.2.2 → defaultValue (ty j) = vp_V (z_fs (z_at 0) 0 [(5, 0), (0, 0), (5, 0), (5, 0), (0, 0), (5, 0), (0, 0)] (fun _ => 0)) j := ⟨(RX4, TX4, 7), rfl, rfl, z_t1 57 rfl rfl, z_t1 58 rfl rfl, z_t1 3 rfl rfl, win_X4, tyX4, tyX4_ok, fun j hj => match j, hj with | 0, _ => rfl | 1, _ => rfl | 2, _ => rfl | 3, _ => rfl | 4, _ => rfl | 5, _ => rfl | 6, _ => rfl | _ + 7, h => absurd h (by show ¬ _ < 7; omega)⟩
theorem zn_RX11_23 : ∃ q : vw_C, vwCl[2]? = some q ∧ q.2.2 = 6 ∧ Cond.classLink RX11 23 q.1 ∈ z_tbl ∧ Cond.instantiable q.1 6 ∈ z_tbl ∧ Cond.initialized q.1 ∈ z_tbl ∧ (∀ w ∈ u_ws q.1 q.2.1 q.2.2, w ∈ z_tbl) ∧ ∃ ty : Nat → FieldType, (∀ k, k < q.2.2 → parseFieldDescriptor (q.2.1 k).2.2.1 = some (ty k)) ∧ ∀ j, j < q.2.2 → defaultValue (ty j) = vp_V (z_fs (z_at 0) 0 [(5, 0), (5, 0), (5, 0), (0, 0), (0, 0), (0, 0)] (fun _ => 0)) j := ⟨(RX2, TX2, 6), rfl, rfl, z_t1 160 rfl rfl, z_t1 161 rfl rfl, z_t1 6 rfl rfl, win_X2, tyX2, tyX2_ok, fun j hj => match j, hj with | 0, _ => rfl | 1, _ => rfl | 2, _ => rfl | 3, _ => rfl | 4, _ => rfl | 5, _ => rfl | _ + 6, h => absurd h (by show ¬ _ < 6; omega)⟩
theorem zn_RX11_30 : ∃ q : vw_C, vwCl[0]? = some q ∧ q.2.2 = 5 ∧ Cond.classLink RX11 30 q.1 ∈ z_tbl ∧ Cond.instantiable q.1 5 ∈ z_tbl ∧ Cond.initialized q.1 ∈ z_tbl ∧ (∀ w ∈ u_ws q.1 q.2.1 q.2.2, w ∈ z_tbl) ∧ ∃ ty : Nat → FieldType, (∀ k, k < q.2.2 → parseFieldDescriptor (q.2.1 k).2.2.1 = some (ty k)) ∧ ∀ j, j < q.2.2 → defaultValue (ty j) = vp_V (z_fs (z_at 0) 0 [(5, 0), (5, 0), (5, 0), (5, 0), (2, 0)] (fun _ => 0)) j := ⟨(RX0, TX0, 5), rfl, rfl, z_t1 190 rfl rfl, z_t1 191 rfl rfl, z_t1 7 rfl rfl, win_X0, tyX0, tyX0_ok, fun j hj => match j, hj with | 0, _ => rfl | 1, _ => rfl | 2, _ => rfl | 3, _ => rfl | 4, _ => rfl | _ + 5, h => absurd h (by show ¬ _ < 5; omega)⟩
theorem zn_RX11_37 : ∃ q : vw_C, vwCl[5]? = some q ∧ q.2.2 = 11 ∧ Cond.classLink RX11 37 q.1 ∈ z_tbl ∧ Cond.instantiable q.1 11 ∈ z_tbl ∧ Cond.initialized q.1 ∈ z_tbl ∧ (∀ w ∈ u_ws q.1 q.2.1 q.2.2, w ∈ z_tbl) ∧ ∃ ty : Nat → FieldType, (∀ k, k < q.2.2 → parseFieldDescriptor (q.2.1 k).2.2.1 = some (ty k)) ∧ ∀ j, j < q.2.2 → defaultValue (ty j) = vp_V (z_fs (z_at 0) 0 [(5, 0), (5, 0), (5, 0), (5, 0), (5, 0), (0, 0), (0, 0), (0, 0), (0, 0), (2, 0), (2, 0)] (fun _ => 0)) j := ⟨(RX5, TX5, 11), rfl, rfl, z_t1 218 rfl rfl, z_t1 219 rfl rfl, z_t1 8 rfl rfl, win_X5, tyX5, tyX5_ok, fun j hj => match j, hj with | 0, _ => rfl | 1, _ => rfl | 2, _ => rfl | 3, _ => rfl | 4, _ => rfl | 5, _ => rfl | 6, _ => rfl | 7, _ => rfl | 8, _ => rfl | 9, _ => rfl | 10, _ => rfl | _ + 11, h => absurd h (by show ¬ _ < 11; omega)⟩
theorem zn_RX11_44 : ∃ q : vw_C, vwCl[8]? = some q ∧ q.2.2 = 6 ∧ Cond.classLink RX11 44 q.1 ∈ z_tbl ∧ Cond.instantiable q.1 6 ∈ z_tbl ∧ Cond.initialized q.1 ∈ z_tbl ∧ (∀ w ∈ u_ws q.1 q.2.1 q.2.2, w ∈ z_tbl) ∧ ∃ ty : Nat → FieldType, (∀ k, k < q.2.2 → parseFieldDescriptor (q.2.1 k).2.2.1 = some (ty k)) ∧ ∀ j, j < q.2.2 → defaultValue (ty j) = vp_V (z_fs (z_at 0) 0 [(5, 0), (5, 0), (5, 0), (0, 0), (0, 0), (1, 0)] (fun _ => 0)) j := ⟨(RX8, TX8, 6), rfl, rfl, z_t2 20 rfl rfl, z_t2 21 rfl rfl, z_t1 9 rfl rfl, win_X8, tyX8, tyX8_ok, fun j hj => match j, hj with | 0, _ => rfl | 1, _ => rfl | 2, _ => rfl | 3, _ => rfl | 4, _ => rfl | 5, _ => rfl | _ + 6, h => absurd h (by show ¬ _ < 6; omega)⟩
theorem zn_RX11_51 : ∃ q : vw_C, vwCl[3]? = some q ∧ q.2.2 = 6 ∧ Cond.classLink RX11 51 q.1 ∈ z_tbl ∧ Cond.instantiable q.1 6 ∈ z_tbl ∧ Cond.initialized q.1 ∈ z_tbl ∧ (∀ w ∈ u_ws q.1 q.2.1 q.2.2, w ∈ z_tbl) ∧ ∃ ty : Nat → FieldType, (∀ k, k < q.2.2 → parseFieldDescriptor (q.2.1 k).2.2.1 = some (ty k)) ∧ ∀ j, j < q.2.2 → defaultValue (ty j) = vp_V (z_fs (z_at 0) 0 [(5, 0), (5, 0), (5, 0), (0, 0), (0, 0), (2, 0)] (fun _ => 0)) j := ⟨(RX3, TX3, 6), rfl, rfl, z_t2 50 rfl rfl, z_t2 51 rfl rfl, z_t1 10 rfl rfl, win_X3, tyX3, tyX3_ok, fun j hj => match j, hj with | 0, _ => rfl | 1, _ => rfl | 2, _ => rfl | 3, _ => rfl | 4, _ => rfl | 5, _ => rfl | _ + 6, h => absurd h (by show ¬ _ < 6; omega)⟩
theorem zn_RX11_58 : ∃ q : vw_C, vwCl[10]? = some q ∧ q.2.2 = 4 ∧ Cond.classLink RX11 58 q.1 ∈ z_tbl ∧ Cond.instantiable q.1 4 ∈ z_tbl ∧ Cond.initialized q.1 ∈ z_tbl ∧ (∀ w ∈ u_ws q.1 q.2.1 q.2.2, w ∈ z_tbl) ∧ ∃ ty : Nat → FieldType, (∀ k, k < q.2.2 → parseFieldDescriptor (q.2.1 k).2.2.1 = some (ty k)) ∧ ∀ j, j < q.2.2 → defaultValue (ty j) = vp_V (z_fs (z_at 0) 0 [(5, 0), (5, 0), (5, 0), (2, 0)] (fun _ => 0)) j := ⟨(RX10, TX10, 4), rfl, rfl, z_t2 76 rfl rfl, z_t2 77 rfl rfl, z_t1 11 rfl rfl, win_X10, tyX10, tyX10_ok, fun j hj => match j, hj with | 0, _ => rfl | 1, _ => rfl | 2, _ => rfl | 3, _ => rfl | _ + 4, h => absurd h (by show ¬ _ < 4; omega)⟩
theorem zn_RX11_65 : ∃ q : vw_C, vwCl[6]? = some q ∧ q.2.2 = 2 ∧ Cond.classLink RX11 65 q.1 ∈ z_tbl ∧ Cond.instantiable q.1 2 ∈ z_tbl ∧ Cond.initialized q.1 ∈ z_tbl ∧ (∀ w ∈ u_ws q.1 q.2.1 q.2.2, w ∈ z_tbl) ∧ ∃ ty : Nat → FieldType, (∀ k, k < q.2.2 → parseFieldDescriptor (q.2.1 k).2.2.1 = some (ty k)) ∧ ∀ j, j < q.2.2 → defaultValue (ty j) = vp_V (z_fs (z_at 0) 0 [(5, 0), (0, 0)] (fun _ => 0)) j := ⟨(RX6, TX6, 2), rfl, rfl, z_t2 98 rfl rfl, z_t2 99 rfl rfl, z_t1 12 rfl rfl, win_X6, tyX6, tyX6_ok, fun j hj => match j, hj with | 0, _ => rfl | 1, _ => rfl | _ + 2, h => absurd h (by show ¬ _ < 2; omega)⟩
theorem zsub_158 : ∀ i, i < 1 → z_T0 (158 + 1 + i) = .inr (0, 0, 4, 0, 0) ∧ z_T (158 + 1 + i) = .inr (0, 0, 4, 0, 0) := fun i hi => match i, hi with | 0, _ => ⟨rfl, rfl⟩ | _ + 1, h => absurd h (by omega)
theorem zsub_160 : ∀ i, i < 1 → z_T0 (160 + 1 + i) = .inr (0, 0, 4, 0, 0) ∧ z_T (160 + 1 + i) = .inr (0, 0, 4, 0, 0) := fun i hi => match i, hi with | 0, _ => ⟨rfl, rfl⟩ | _ + 1, h => absurd h (by omega)
theorem zr_162 : ∀ i, i < 5 → z_T0 (162 + 1 + i) = .inr (0, 0, 5, 0, 0) := fun i hi => match i, hi with | 0, _ => rfl | 1, _ => rfl | 2, _ => rfl | 3, _ => rfl | 4, _ => rfl | _ + 5, h => absurd h (by omega)
