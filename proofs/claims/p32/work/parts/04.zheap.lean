-- THE ROWS OF THE LAYER Z THAT READ AND WRITE CELLS (laid by wip/gen32/zheap.py)
def z_FL (own : String) (idx ci j : Nat) : Prop := ∃ q : vw_C, vwCl[ci]? = some q ∧ j < q.2.2 ∧ (∀ w ∈ u_ws q.1 q.2.1 q.2.2, w ∈ z_tbl) ∧ Cond.fieldLink own idx q.1 (q.2.1 j).2.1 (q.2.1 j).2.2.1 ∈ z_tbl ∧ (q.2.1 j).1 = q.1
def z_FC (ci : Nat) : Prop := ∃ (q : vw_C) (ty : Nat → FieldType), vwCl[ci]? = some q ∧ (∀ k, k < q.2.2 → parseFieldDescriptor (q.2.1 k).2.2.1 = some (ty k)) ∧ ∀ a, a < q.2.2 → ∀ b, b < q.2.2 → a ≠ b → (q.2.1 a).2.1 ≠ (q.2.1 b).2.1
def z_FP (own : String) (idx ci j : Nat) (ty : FieldType) : Prop := z_FL own idx ci j ∧ z_FC ci ∧ ∃ q : vw_C, vwCl[ci]? = some q ∧ (q.2.1 j).2.2.2 = false ∧ parseFieldDescriptor (q.2.1 j).2.2.1 = some ty
theorem z_up_ne {st : z_St} {i j v : Int} {k' : Nat} {k : Nat} (hk : (k : Int) = i) (h : k' ≠ k) : z_up st i j v k' = st k' := by
  funext y
  unfold z_up
  rw [if_neg]
  rintro ⟨q, -⟩
  omega
theorem z_up_at {st : z_St} {i j v : Int} : z_up st i j v i j = v := if_pos ⟨rfl, rfl⟩
theorem z_up_n {st : z_St} {i j v x y : Int} (h : ¬ (x = i ∧ y = j)) : z_up st i j v x y = st x y := if_neg h
section
variable {κ : zK} {own : String} {cc : ByteArray} {n lam mc ms : Nat} {T : Nat → z_Ty} {N : Nat} {a : Nat → Nat} {cells slots pc : Nat} {L : List (Nat × Value)} {S : List Value} {st : z_St}
theorem z_get {ci j k idx : Nat} {ks : List (Nat × Nat)} {q : Nat × Nat} (hc : z_C κ own cc n lam mc ms) (hf : z_FL own idx ci j) (hT : T k = .inl (ci, ks)) (hk : k < N) (hq : ks[j]? = some q) (hd : decode cc pc = .ok (.getfield idx, 3)) (kk : z_V κ T N a cells slots (pc + 3) L (z_v a k q (st k j) :: S) st) : z_V κ T N a cells slots pc L (.ref (a k) :: S) st := by
  obtain ⟨p, l, e, R, s, m, args, below, meth, c, Q, A, D, cA, nL⟩ := κ
  obtain ⟨hx, hb, hml, hn, hown, hts, hlk, hK, hA, hfr, hlo, hce, hsl, hX9, htr⟩ := hc
  intro H locs ls hP hS hl
  obtain ⟨⟨C, TT, NN⟩, f1, f2, f3, f4, f5⟩ := hf
  have hw := z_ws_get (cA := cA) (T := T) (a := a) (st := st) hk
  rw [hT] at hw
  exact va_get (D := D) (ci := ci) (C := C) (T := TT) (N := NN) hx hb hts f3 hown hK hP k hw f1 j f2 (hts _ f4) (fun x h => by rw [f5] at h; exact h) (z_fs_get hq) hd (kk H locs ls hP hS hl)
theorem z_getI {ci j k idx : Nat} {ks : List (Nat × Nat)} {kI jI : Int} (hc : z_C κ own cc n lam mc ms) (hf : z_FL own idx ci j) (hT : T k = .inl (ci, ks)) (hk : k < N) (hkI : (k : Int) = kI) (hjI : (j : Int) = jI) (hq : ks[j]? = some (0, 0)) (hd : decode cc pc = .ok (.getfield idx, 3)) (kk : z_V κ T N a cells slots (pc + 3) L (.int (zI (st kI jI)) :: S) st) : z_V κ T N a cells slots pc L (.ref (a k) :: S) st := by
  subst hkI hjI
  exact z_get hc hf hT hk hq hd kk
theorem z_getZ {ci j k idx : Nat} {ks : List (Nat × Nat)} {kI jI : Int} (hc : z_C κ own cc n lam mc ms) (hf : z_FL own idx ci j) (hT : T k = .inl (ci, ks)) (hk : k < N) (hkI : (k : Int) = kI) (hjI : (j : Int) = jI) (hq : ks[j]? = some (2, 0)) (hd : decode cc pc = .ok (.getfield idx, 3)) (kk : z_V κ T N a cells slots (pc + 3) L (.int (zI (st kI jI)) :: S) st) : z_V κ T N a cells slots pc L (.ref (a k) :: S) st := by
  subst hkI hjI
  exact z_get hc hf hT hk hq hd kk
theorem z_getJ {ci j k idx : Nat} {ks : List (Nat × Nat)} {kI jI : Int} (hc : z_C κ own cc n lam mc ms) (hf : z_FL own idx ci j) (hT : T k = .inl (ci, ks)) (hk : k < N) (hkI : (k : Int) = kI) (hjI : (j : Int) = jI) (hq : ks[j]? = some (1, 0)) (hd : decode cc pc = .ok (.getfield idx, 3)) (kk : z_V κ T N a cells slots (pc + 3) L (.long (zJ (st kI jI)) :: S) st) : z_V κ T N a cells slots pc L (.ref (a k) :: S) st := by
  subst hkI hjI
  exact z_get hc hf hT hk hq hd kk
theorem z_getA {ci j k k' d idx : Nat} {ks : List (Nat × Nat)} (hc : z_C κ own cc n lam mc ms) (hf : z_FL own idx ci j) (hT : T k = .inl (ci, ks)) (hk : k < N) (hk' : k + d = k') (hq : ks[j]? = some (4, d)) (hd : decode cc pc = .ok (.getfield idx, 3)) (kk : z_V κ T N a cells slots (pc + 3) L (.ref (a k') :: S) st) : z_V κ T N a cells slots pc L (.ref (a k) :: S) st := by
  subst hk'
  exact z_get hc hf hT hk hq hd kk
theorem z_getV {α : Type} {X : Option α} {o : α} {ci j k idx : Nat} {u v : Int} {ks : List (Nat × Nat)} {kI jI : Int} (hc : z_C κ own cc n lam mc ms) (hf : z_FL own idx ci j) (hT : T k = .inl (ci, ks)) (hk : k < N) (hkI : (k : Int) = kI) (hjI : (j : Int) = jI) (hq : ks[j]? = some (3, 0)) (hu : 0 ≤ u ∧ 0 ≤ v) (hd : decode cc pc = .ok (.getfield idx, 3)) (h : z_g (st kI jI = u ∨ st kI jI = v) X = some o) (kk : (st kI jI = u ∨ st kI jI = v) → X = some o → z_V κ T N a cells slots (pc + 3) L (.ref (a (st kI jI).toNat) :: S) st) : z_V κ T N a cells slots pc L (.ref (a k) :: S) st := by
  subst hkI hjI
  obtain ⟨h1, h⟩ := z_g_some h
  refine z_get hc hf hT hk hq hd ?_
  have e : z_v a k (3, 0) (st k j) = .ref (a (st k j).toNat) := by
    show va_rf (if st k j < 0 then none else some (a (st k j).toNat)) = _
    rw [if_neg (by omega)]
    rfl
  rw [e]
  exact kk h1 h
theorem z_put {ci j k idx : Nat} {ks : List (Nat × Nat)} {q : Nat × Nat} {ty : FieldType} {v : Value} {x : Int} (hc : z_C κ own cc n lam mc ms) (hap : z_AP κ a N) (hf : z_FP own idx ci j ty) (hT : T k = .inl (ci, ks)) (hk : k < N) (hq : ks[j]? = some q) (hv : v = z_v a k q x) (hnv : narrow ty v = v) (hfv : fits ty v = true) (hd : decode cc pc = .ok (.putfield idx, 3)) (kk : z_V κ T N a cells slots (pc + 3) L S (z_up st k j x)) : z_V κ T N a cells slots pc L (v :: .ref (a k) :: S) st := by
  obtain ⟨p, l, e, R, s, m, args, below, meth, c, Q, A, D, cA, nL⟩ := κ
  obtain ⟨hx, hb, hml, hn, hown, hts, hlk, hK, hA, hfr, hlo, hce, hsl, hX9, htr⟩ := hc
  intro H locs ls hP hS hl
  obtain ⟨⟨⟨C, TT, NN⟩, f1, f2, f3, f4, f5⟩, ⟨q1, ty0, g1, g2, g3⟩, q2, i1, i2, i3⟩ := hf
  cases Option.some.inj (f1.symm.trans g1)
  cases Option.some.inj (f1.symm.trans i1)
  obtain ⟨hinj, hAk⟩ := hap
  have hw := z_ws_get (cA := cA) (T := T) (a := a) (st := st) hk
  rw [hT] at hw
  have hD : va_D A (z_ws cA T a N st) := (z_D (sz := s.heap.size) hinj).weaken (fun k9 q9 h9 _ => by obtain ⟨h1, rfl⟩ := z_ws_inv h9; exact hAk _ h1)
  refine va_put (D := D) (ci := ci) (v := v) (ty := ty) (C := C) (T := TT) (N := NN) hx hb hts f3 ty0 g2 g3 hown hK hP hD hS k hw f1 j f2 (hts _ f4) (fun x h => by rw [f5] at h; exact h) i2 i3 hnv hfv (by rw [z_fs_len]; exact (List.getElem?_eq_some_iff.mp hq).1) hd (fun H1 locs1 hP1 _ hS1 => ?_)
  rw [z_ws_set (st' := z_up st k j x) hk (by rw [hT]; show Sum.inr (ci, (z_fs a k ks (st k)).set j v) = Sum.inr (ci, z_fs a k ks (z_up st k j x k)); rw [z_fs_set hq (hv.trans (by rw [z_up_at])) (fun i9 h9 => z_up_n (by omega))]) (fun k9 h9 => z_up_ne rfl h9)] at hP1
  exact kk H1 locs1 ls hP1 hS1 hl
theorem z_putI {α : Type} {F : z_St → Option α} {o : α} {ci j k idx : Nat} {ks : List (Nat × Nat)} {kI jI x : Int} (hc : z_C κ own cc n lam mc ms) (hap : z_AP κ a N) (hf : z_FP own idx ci j .int) (hT : T k = .inl (ci, ks)) (hk : k < N) (hkI : (k : Int) = kI) (hjI : (j : Int) = jI) (hq : ks[j]? = some (0, 0)) (hd : decode cc pc = .ok (.putfield idx, 3)) (h : z_let (z_up st kI jI x) F = some o) (kk : ∀ st, F st = some o → z_V κ T N a cells slots (pc + 3) L S st) : z_V κ T N a cells slots pc L (.int (zI x) :: .ref (a k) :: S) st := by
  subst hkI hjI
  exact z_put hc hap hf hT hk hq rfl rfl rfl hd (kk _ h)
theorem z_putJ {α : Type} {F : z_St → Option α} {o : α} {ci j k idx : Nat} {ks : List (Nat × Nat)} {kI jI x : Int} (hc : z_C κ own cc n lam mc ms) (hap : z_AP κ a N) (hf : z_FP own idx ci j .long) (hT : T k = .inl (ci, ks)) (hk : k < N) (hkI : (k : Int) = kI) (hjI : (j : Int) = jI) (hq : ks[j]? = some (1, 0)) (hd : decode cc pc = .ok (.putfield idx, 3)) (h : z_let (z_up st kI jI x) F = some o) (kk : ∀ st, F st = some o → z_V κ T N a cells slots (pc + 3) L S st) : z_V κ T N a cells slots pc L (.long (zJ x) :: .ref (a k) :: S) st := by
  subst hkI hjI
  exact z_put hc hap hf hT hk hq rfl rfl rfl hd (kk _ h)
theorem z_bool {x : Int} (h : x = 0 ∨ x = 1) : narrow .boolean (.int (zI x)) = .int (zI x) ∧ fits .boolean (.int (zI x)) = true ∧ vp_nar .boolean (zI x) = zI x := by
  rcases h with rfl | rfl <;> decide
theorem z_putZ {α : Type} {F : z_St → Option α} {o : α} {ci j k idx : Nat} {ks : List (Nat × Nat)} {kI jI x : Int} (hc : z_C κ own cc n lam mc ms) (hap : z_AP κ a N) (hf : z_FP own idx ci j .boolean) (hT : T k = .inl (ci, ks)) (hk : k < N) (hkI : (k : Int) = kI) (hjI : (j : Int) = jI) (hq : ks[j]? = some (2, 0)) (hd : decode cc pc = .ok (.putfield idx, 3)) (h : z_g (x = 0 ∨ x = 1) (z_let (z_up st kI jI x) F) = some o) (kk : ∀ st, F st = some o → z_V κ T N a cells slots (pc + 3) L S st) : z_V κ T N a cells slots pc L (.int (zI x) :: .ref (a k) :: S) st := by
  subst hkI hjI
  obtain ⟨h1, h⟩ := z_g_some h
  exact z_put hc hap hf hT hk hq rfl (z_bool h1).1 (z_bool h1).2.1 hd (kk _ h)
theorem z_putV {α : Type} {F : z_St → Option α} {o : α} {ci j k k2 idx : Nat} {ks : List (Nat × Nat)} {kI jI x : Int} (hc : z_C κ own cc n lam mc ms) (hap : z_AP κ a N) (hf : z_FP own idx ci j (.array .int)) (hT : T k = .inl (ci, ks)) (hk : k < N) (hkI : (k : Int) = kI) (hjI : (j : Int) = jI) (hq : ks[j]? = some (3, 0)) (hx0 : 0 ≤ x) (hx2 : x.toNat = k2) (hd : decode cc pc = .ok (.putfield idx, 3)) (h : z_let (z_up st kI jI x) F = some o) (kk : ∀ st, F st = some o → z_V κ T N a cells slots (pc + 3) L S st) : z_V κ T N a cells slots pc L (.ref (a k2) :: .ref (a k) :: S) st := by
  subst hkI hjI hx2
  refine z_put hc hap hf hT hk hq ?_ rfl rfl hd (kk _ h)
  show _ = va_rf (if x < 0 then none else some (a x.toNat))
  rw [if_neg (by omega)]
  rfl
theorem z_alen {k nn : Nat} {q : Nat × Nat × Nat × Nat × Nat} (hc : z_C κ own cc n lam mc ms) (hT : T k = .inr q) (hk : k < N) (hq : q.1 = 1 ∧ q.2.1 = 1) (hnn : q.2.2.1 = nn) (hd : decode cc pc = .ok (.arraylength, 1)) (kk : z_V κ T N a cells slots (pc + 1) L (.int (zI nn) :: S) st) : z_V κ T N a cells slots pc L (.ref (a k) :: S) st := by
  obtain ⟨p, l, e, R, s, m, args, below, meth, c, Q, A, D, cA, nL⟩ := κ
  obtain ⟨hx, hb, hml, hn, hown, hts, hlk, hK, hA, hfr, hlo, hce, hsl, hX9, htr⟩ := hc
  intro H locs ls hP hS hl
  have hw := z_ws_get (cA := cA) (T := T) (a := a) (st := st) hk
  rw [hT] at hw
  obtain ⟨κ0, τ, nn9, d, s9⟩ := q
  obtain ⟨q1, q2⟩ := hq
  cases q1; cases q2; cases hnn
  exact va_alen hx hb hK hP k 1 (a := a k) hw (ty := .long) rfl (v := zI nn9) Int32.ofInt_eq_ofNat.symm hd (kk H locs ls hP hS hl)

theorem z_iald {α : Type} {X : Option α} {o : α} {k nn d9 s9 : Nat} {kI i nI9 : Int} (hc : z_C κ own cc n lam mc ms) (hT : T k = .inr (0, 0, nn, d9, s9)) (hk : k < N) (hkI : (k : Int) = kI) (hnI : (nn : Int) = nI9) (hnn : nn < 2147483648) (hd : decode cc pc = .ok (.iaload, 1)) (h : z_g (0 ≤ i ∧ i < nI9) X = some o) (kk : (0 ≤ i ∧ i < nI9) → X = some o → z_V κ T N a cells slots (pc + 1) L (.int (zI (st kI i)) :: S) st) : z_V κ T N a cells slots pc L (.int (zI i) :: .ref (a k) :: S) st := by
  obtain ⟨p, l, e, R, s, m, args, below, meth, c, Q, A, D, cA, nL⟩ := κ
  obtain ⟨hx, hb, hml, hn, hown, hts, hlk, hK, hA, hfr, hlo, hce, hsl, hX9, htr⟩ := hc
  intro H locs ls hP hS hl
  subst hkI hnI
  obtain ⟨h1, h⟩ := z_g_some h
  have hw := z_ws_get (cA := cA) (T := T) (a := a) (st := st) hk
  rw [hT] at hw
  refine va_iald hx hb hK hP k 0 hw rfl (zI_in h1 hnn) hd ?_
  show W p l e R s m args below meth c H locs cells slots Q (F0 m (pc + 1) ls (.int (zI (st k ((zI i).toNatClampNeg : Int))) :: S))
  rw [zI_cl h1.1 (by omega), Int.toNat_of_nonneg h1.1]
  exact kk h1 h H locs ls hP hS hl

theorem z_lald {α : Type} {X : Option α} {o : α} {k nn d9 s9 : Nat} {kI i nI9 : Int} (hc : z_C κ own cc n lam mc ms) (hT : T k = .inr (1, 1, nn, d9, s9)) (hk : k < N) (hkI : (k : Int) = kI) (hnI : (nn : Int) = nI9) (hnn : nn < 2147483648) (hd : decode cc pc = .ok (.laload, 1)) (h : z_g (0 ≤ i ∧ i < nI9) X = some o) (kk : (0 ≤ i ∧ i < nI9) → X = some o → z_V κ T N a cells slots (pc + 1) L (.long (zJ (st kI i)) :: S) st) : z_V κ T N a cells slots pc L (.int (zI i) :: .ref (a k) :: S) st := by
  obtain ⟨p, l, e, R, s, m, args, below, meth, c, Q, A, D, cA, nL⟩ := κ
  obtain ⟨hx, hb, hml, hn, hown, hts, hlk, hK, hA, hfr, hlo, hce, hsl, hX9, htr⟩ := hc
  intro H locs ls hP hS hl
  subst hkI hnI
  obtain ⟨h1, h⟩ := z_g_some h
  have hw := z_ws_get (cA := cA) (T := T) (a := a) (st := st) hk
  rw [hT] at hw
  refine va_lald hx hb hK hP k 1 hw rfl (zI_in h1 hnn) hd ?_
  show W p l e R s m args below meth c H locs cells slots Q (F0 m (pc + 1) ls (.long (zJ (st k ((zI i).toNatClampNeg : Int))) :: S))
  rw [zI_cl h1.1 (by omega), Int.toNat_of_nonneg h1.1]
  exact kk h1 h H locs ls hP hS hl

theorem z_zald {α : Type} {X : Option α} {o : α} {k nn d9 s9 : Nat} {kI i nI9 : Int} (hc : z_C κ own cc n lam mc ms) (hT : T k = .inr (2, 2, nn, d9, s9)) (hk : k < N) (hkI : (k : Int) = kI) (hnI : (nn : Int) = nI9) (hnn : nn < 2147483648) (hd : decode cc pc = .ok (.baload, 1)) (h : z_g (0 ≤ i ∧ i < nI9) X = some o) (kk : (0 ≤ i ∧ i < nI9) → X = some o → z_V κ T N a cells slots (pc + 1) L (.int (zI (st kI i)) :: S) st) : z_V κ T N a cells slots pc L (.int (zI i) :: .ref (a k) :: S) st := by
  obtain ⟨p, l, e, R, s, m, args, below, meth, c, Q, A, D, cA, nL⟩ := κ
  obtain ⟨hx, hb, hml, hn, hown, hts, hlk, hK, hA, hfr, hlo, hce, hsl, hX9, htr⟩ := hc
  intro H locs ls hP hS hl
  subst hkI hnI
  obtain ⟨h1, h⟩ := z_g_some h
  have hw := z_ws_get (cA := cA) (T := T) (a := a) (st := st) hk
  rw [hT] at hw
  refine va_zald hx hb hK hP k 2 hw rfl (zI_in h1 hnn) hd ?_
  show W p l e R s m args below meth c H locs cells slots Q (F0 m (pc + 1) ls (.int (zI (st k ((zI i).toNatClampNeg : Int))) :: S))
  rw [zI_cl h1.1 (by omega), Int.toNat_of_nonneg h1.1]
  exact kk h1 h H locs ls hP hS hl

theorem z_iast {α : Type} {F : z_St → Option α} {o : α} {k nn d9 s9 : Nat} {kI i nI9 x : Int} (hc : z_C κ own cc n lam mc ms) (hap : z_AP κ a N) (hT : T k = .inr (0, 0, nn, d9, s9)) (hk : k < N) (hkI : (k : Int) = kI) (hnI : (nn : Int) = nI9) (hnn : nn < 2147483648) (hd : decode cc pc = .ok (.iastore, 1)) (h : z_g (0 ≤ i ∧ i < nI9) (z_let (z_up st kI i x) F) = some o) (kk : ∀ st, F st = some o → z_V κ T N a cells slots (pc + 1) L S st) : z_V κ T N a cells slots pc L (.int (zI x) :: .int (zI i) :: .ref (a k) :: S) st := by
  obtain ⟨p, l, e, R, s, m, args, below, meth, c, Q, A, D, cA, nL⟩ := κ
  obtain ⟨hx, hb, hml, hn, hown, hts, hlk, hK, hA, hfr, hlo, hce, hsl, hX9, htr⟩ := hc
  intro H locs ls hP hS hl
  subst hkI hnI
  obtain ⟨h1, h⟩ := z_g_some h
  obtain ⟨hinj, hAk⟩ := hap
  have hw := z_ws_get (cA := cA) (T := T) (a := a) (st := st) hk
  rw [hT] at hw
  have hD : va_D A (z_ws cA T a N st) := (z_D (sz := s.heap.size) hinj).weaken (fun k9 q9 h9 _ => by obtain ⟨h1, rfl⟩ := z_ws_inv h9; exact hAk _ h1)
  have ef : upd (fun j : Nat => zI (st k j)) (zI i).toNatClampNeg (zI x) = fun j : Nat => zI (z_up st k i x k j) := by
    rw [zI_cl h1.1 (by omega)]
    funext j
    by_cases e9 : j = i.toNat
    · subst e9
      simp only [upd, if_pos]
      rw [Int.toNat_of_nonneg h1.1, z_up_at]
    · simp only [upd, if_neg e9]
      rw [z_up_n (by omega)]
  refine va_iast hx hb hK hP hD hS k 0 hw rfl (zI_in h1 hnn) hd (fun H1 locs1 hP1 _ hS1 => ?_)
  rw [z_ws_set (st' := z_up st k i x) hk (by rw [ef, hT]; rfl) (fun k9 h9 => z_up_ne rfl h9)] at hP1
  exact kk _ h H1 locs1 ls hP1 hS1 hl

theorem z_last {α : Type} {F : z_St → Option α} {o : α} {k nn d9 s9 : Nat} {kI i nI9 x : Int} (hc : z_C κ own cc n lam mc ms) (hap : z_AP κ a N) (hT : T k = .inr (1, 1, nn, d9, s9)) (hk : k < N) (hkI : (k : Int) = kI) (hnI : (nn : Int) = nI9) (hnn : nn < 2147483648) (hd : decode cc pc = .ok (.lastore, 1)) (h : z_g (0 ≤ i ∧ i < nI9) (z_let (z_up st kI i x) F) = some o) (kk : ∀ st, F st = some o → z_V κ T N a cells slots (pc + 1) L S st) : z_V κ T N a cells slots pc L (.long (zJ x) :: .int (zI i) :: .ref (a k) :: S) st := by
  obtain ⟨p, l, e, R, s, m, args, below, meth, c, Q, A, D, cA, nL⟩ := κ
  obtain ⟨hx, hb, hml, hn, hown, hts, hlk, hK, hA, hfr, hlo, hce, hsl, hX9, htr⟩ := hc
  intro H locs ls hP hS hl
  subst hkI hnI
  obtain ⟨h1, h⟩ := z_g_some h
  obtain ⟨hinj, hAk⟩ := hap
  have hw := z_ws_get (cA := cA) (T := T) (a := a) (st := st) hk
  rw [hT] at hw
  have hD : va_D A (z_ws cA T a N st) := (z_D (sz := s.heap.size) hinj).weaken (fun k9 q9 h9 _ => by obtain ⟨h1, rfl⟩ := z_ws_inv h9; exact hAk _ h1)
  have ef : vp_updL (fun j : Nat => zJ (st k j)) (zI i).toNatClampNeg (zJ x) = fun j : Nat => zJ (z_up st k i x k j) := by
    rw [zI_cl h1.1 (by omega)]
    funext j
    by_cases e9 : j = i.toNat
    · subst e9
      simp only [vp_updL, if_pos]
      rw [Int.toNat_of_nonneg h1.1, z_up_at]
    · simp only [vp_updL, if_neg e9]
      rw [z_up_n (by omega)]
  refine va_last hx hb hK hP hD hS k 1 hw rfl (zI_in h1 hnn) hd (fun H1 locs1 hP1 _ hS1 => ?_)
  rw [z_ws_set (st' := z_up st k i x) hk (by rw [ef, hT]; rfl) (fun k9 h9 => z_up_ne rfl h9)] at hP1
  exact kk _ h H1 locs1 ls hP1 hS1 hl

theorem z_zast {α : Type} {F : z_St → Option α} {o : α} {k nn d9 s9 : Nat} {kI i nI9 x : Int} (hc : z_C κ own cc n lam mc ms) (hap : z_AP κ a N) (hT : T k = .inr (2, 2, nn, d9, s9)) (hk : k < N) (hkI : (k : Int) = kI) (hnI : (nn : Int) = nI9) (hnn : nn < 2147483648) (hd : decode cc pc = .ok (.bastore, 1)) (h : z_g ((0 ≤ i ∧ i < nI9) ∧ (x = 0 ∨ x = 1)) (z_let (z_up st kI i x) F) = some o) (kk : ∀ st, F st = some o → z_V κ T N a cells slots (pc + 1) L S st) : z_V κ T N a cells slots pc L (.int (zI x) :: .int (zI i) :: .ref (a k) :: S) st := by
  obtain ⟨p, l, e, R, s, m, args, below, meth, c, Q, A, D, cA, nL⟩ := κ
  obtain ⟨hx, hb, hml, hn, hown, hts, hlk, hK, hA, hfr, hlo, hce, hsl, hX9, htr⟩ := hc
  intro H locs ls hP hS hl
  subst hkI hnI
  obtain ⟨⟨h1, h0⟩, h⟩ := z_g_some h
  obtain ⟨hinj, hAk⟩ := hap
  have hw := z_ws_get (cA := cA) (T := T) (a := a) (st := st) hk
  rw [hT] at hw
  have hD : va_D A (z_ws cA T a N st) := (z_D (sz := s.heap.size) hinj).weaken (fun k9 q9 h9 _ => by obtain ⟨h1, rfl⟩ := z_ws_inv h9; exact hAk _ h1)
  have ef : upd (fun j : Nat => zI (st k j)) (zI i).toNatClampNeg (vp_nar .boolean (zI x)) = fun j : Nat => zI (z_up st k i x k j) := by
    rw [zI_cl h1.1 (by omega), (z_bool h0).2.2]
    funext j
    by_cases e9 : j = i.toNat
    · subst e9
      simp only [upd, if_pos]
      rw [Int.toNat_of_nonneg h1.1, z_up_at]
    · simp only [upd, if_neg e9]
      rw [z_up_n (by omega)]
  refine va_zast hx hb hK hP hD hS k 2 hw rfl (zI_in h1 hnn) hd (fun H1 locs1 hP1 _ hS1 => ?_)
  rw [z_ws_set (st' := z_up st k i x) hk (by rw [ef, hT]; rfl) (fun k9 h9 => z_up_ne rfl h9)] at hP1
  exact kk _ h H1 locs1 ls hP1 hS1 hl

theorem z_aald {α : Type} {X : Option α} {o : α} {k nn d9 s9 τ : Nat} {r i nI9 : Int} (hc : z_C κ own cc n lam mc ms) (hT : T k = .inr (4, τ, nn, d9, s9)) (hk : k < N) (hτ : τ = 3 ∨ τ = 4 ∨ τ = 5 ∨ τ = 6) (hnI : (nn : Int) = nI9) (hnn : nn < 2147483648) (hr : ∀ j : Nat, (j : Int) = i → ((k + d9 + s9 * j : Nat) : Int) = r) (hd : decode cc pc = .ok (.aaload, 1)) (h : z_g (0 ≤ i ∧ i < nI9) X = some o) (kk : (0 ≤ i ∧ i < nI9) → X = some o → z_V κ T N a cells slots (pc + 1) L (.ref (a r.toNat) :: S) st) : z_V κ T N a cells slots pc L (.int (zI i) :: .ref (a k) :: S) st := by
  obtain ⟨p, l, e, R, s, m, args, below, meth, c, Q, A, D, cA, nL⟩ := κ
  obtain ⟨hx, hb, hml, hn, hown, hts, hlk, hK, hA, hfr, hlo, hce, hsl, hX9, htr⟩ := hc
  intro H locs ls hP hS hl
  subst hnI
  obtain ⟨h1, h⟩ := z_g_some h
  have hw := z_ws_get (cA := cA) (T := T) (a := a) (st := st) hk
  rw [hT] at hw
  have hin : vp_in (zI i) nn := zI_in h1 hnn
  have hlt : (zI i).toNatClampNeg < nn := Nat.not_le.mp fun q => hin (Or.inr q)
  have ei : (((zI i).toNatClampNeg : Nat) : Int) = i := by rw [zI_cl h1.1 (by omega), Int.toNat_of_nonneg h1.1]
  have er : k + d9 + s9 * (zI i).toNatClampNeg = r.toNat := by rw [← hr _ ei]; rfl
  have hcell := hP k _ hw
  have key : ∀ ty : FieldType, ty.isReference = true → (z_tys cA)[τ]? = some (cA τ, ty) → W p l e R s m args below meth c H locs cells slots Q (F0 m pc ls (.int (zI i) :: .ref (a k) :: S)) := fun ty hty ht =>
    W.aald (v := .ref (a r.toNat)) (ty := ty) hx hb hcell ((hK.2 τ _ ht).1 nn (fun j => va_rf (if j < nn then some (a (k + d9 + s9 * j)) else none))) hty (fun q => by cases q) (by show ¬ (zI i < 0 ∨ (arrV _ _ _).slots.size ≤ _); rw [arrV_size]; exact hin) (by show (arrV (cA τ) nn (fun j => va_rf (if j < nn then some (a (k + d9 + s9 * j)) else none))).slots[(zI i).toNatClampNeg]? = _; rw [arrV_read _ _ hlt, if_pos hlt, er]; rfl) rfl rfl hd (kk h1 h H locs ls hP hS hl)
  rcases hτ with rfl | rfl | rfl | rfl
  · exact key _ rfl rfl
  · exact key _ rfl rfl
  · exact key _ rfl rfl
  · exact key _ rfl rfl

end
