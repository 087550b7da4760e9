theorem z_lgc {x y : Int} (h1 : z64 x) (h2 : z64 y) : (0 < lg_cmp (zJ x) (zJ y) ↔ y < x) ∧ (lg_cmp (zJ x) (zJ y) < 0 ↔ x < y) ∧ (lg_cmp (zJ x) (zJ y) ≤ 0 ↔ x ≤ y) ∧ (0 ≤ lg_cmp (zJ x) (zJ y) ↔ y ≤ x) ∧ (lg_cmp (zJ x) (zJ y) = 0 ↔ x = y) := by
  unfold lg_cmp
  have e1 := zJ_lt h2 h1
  have e2 := zJ_eq h1 h2
  by_cases c1 : zJ x > zJ y
  · rw [if_pos c1]
    have := e1.mp c1
    refine ⟨⟨fun _ => this, fun _ => by decide⟩, ⟨fun q => absurd q (by decide), fun q => by omega⟩, ⟨fun q => absurd q (by decide), fun q => by omega⟩, ⟨fun _ => by omega, fun _ => by decide⟩, ⟨fun q => absurd q (by decide), fun q => by omega⟩⟩
  · rw [if_neg c1]
    have n1 : ¬ y < x := fun q => c1 (e1.mpr q)
    by_cases c2 : zJ x = zJ y
    · rw [if_pos c2]
      have := e2.mp c2
      refine ⟨⟨fun q => absurd q (by decide), fun q => by omega⟩, ⟨fun q => absurd q (by decide), fun q => by omega⟩, ⟨fun q => by omega, fun _ => by decide⟩, ⟨fun _ => by omega, fun _ => by decide⟩, ⟨fun _ => this, fun _ => rfl⟩⟩
    · rw [if_neg c2]
      have n2 : ¬ x = y := fun q => c2 (e2.mpr q)
      refine ⟨⟨fun q => absurd q (by decide), fun q => by omega⟩, ⟨fun q => by omega, fun _ => by decide⟩, ⟨fun q => by omega, fun _ => by decide⟩, ⟨fun q => absurd q (by decide), fun q => by omega⟩, ⟨fun q => absurd q (by decide), fun q => by omega⟩⟩
-- THE ROWS OF THE LAYER Z (laid by wip/gen32/zrows.py)
section
variable {κ : zK} {own : String} {cc : ByteArray} {n lam mc ms : Nat} {T : Nat → z_Ty} {N : Nat} {a : Nat → Nat} {cells slots pc : Nat} {L : List (Nat × Value)} {S : List Value} {st : z_St}
theorem z_iconst {k : Int} (hc : z_C κ own cc n lam mc ms) (hd : decode cc pc = .ok (.iconst k, 1)) (kk : z_V κ T N a cells slots (pc + 1) L (.int (zI k) :: S) st) : z_V κ T N a cells slots pc L S st := by
  obtain ⟨p, l, e, R, s, m, args, below, meth, c, Q, A, D, cA, nL⟩ := κ
  obtain ⟨hx, hb, hml, hn, hown, hts, hlk, hK, hA, hfr, hlo, hce, hsl, hX9, htr⟩ := hc
  intro H locs ls hP hS hl
  exact lv_iconst hx hb hd rfl (kk H locs ls hP hS hl)
theorem z_bipush {k : Int} (hc : z_C κ own cc n lam mc ms) (hd : decode cc pc = .ok (.bipush k, 2)) (hv : (Int8.ofInt k).toInt32 = zI k) (kk : z_V κ T N a cells slots (pc + 2) L (.int (zI k) :: S) st) : z_V κ T N a cells slots pc L S st := by
  obtain ⟨p, l, e, R, s, m, args, below, meth, c, Q, A, D, cA, nL⟩ := κ
  obtain ⟨hx, hb, hml, hn, hown, hts, hlk, hK, hA, hfr, hlo, hce, hsl, hX9, htr⟩ := hc
  intro H locs ls hP hS hl
  exact lv_bipush hx hb hd hv (kk H locs ls hP hS hl)
theorem z_sipush {k : Int} (hc : z_C κ own cc n lam mc ms) (hd : decode cc pc = .ok (.sipush k, 3)) (hv : (Int16.ofInt k).toInt32 = zI k) (kk : z_V κ T N a cells slots (pc + 3) L (.int (zI k) :: S) st) : z_V κ T N a cells slots pc L S st := by
  obtain ⟨p, l, e, R, s, m, args, below, meth, c, Q, A, D, cA, nL⟩ := κ
  obtain ⟨hx, hb, hml, hn, hown, hts, hlk, hK, hA, hfr, hlo, hce, hsl, hX9, htr⟩ := hc
  intro H locs ls hP hS hl
  exact lv_sipush hx hb hd hv (kk H locs ls hP hS hl)
theorem z_lconst {k : Fin 2} (x : Int) (hc : z_C κ own cc n lam mc ms) (hd : decode cc pc = .ok (.lconst k, 1)) (hv : Int64.ofNat (k : Nat) = zJ x) (kk : z_V κ T N a cells slots (pc + 1) L (.long (zJ x) :: S) st) : z_V κ T N a cells slots pc L S st := by
  obtain ⟨p, l, e, R, s, m, args, below, meth, c, Q, A, D, cA, nL⟩ := κ
  obtain ⟨hx, hb, hml, hn, hown, hts, hlk, hK, hA, hfr, hlo, hce, hsl, hX9, htr⟩ := hc
  intro H locs ls hP hS hl
  exact lv_lconst hx hb hd hv (kk H locs ls hP hS hl)
theorem z_ldc2 {i : Nat} {v : Int64} (x : Int) (hc : z_C κ own cc n lam mc ms) (hw : Cond.constantLong own i v ∈ z_tbl) (hd : decode cc pc = .ok (.ldc2_w i, 3)) (hv : v = zJ x) (kk : z_V κ T N a cells slots (pc + 3) L (.long (zJ x) :: S) st) : z_V κ T N a cells slots pc L S st := by
  obtain ⟨p, l, e, R, s, m, args, below, meth, c, Q, A, D, cA, nL⟩ := κ
  obtain ⟨hx, hb, hml, hn, hown, hts, hlk, hK, hA, hfr, hlo, hce, hsl, hX9, htr⟩ := hc
  intro H locs ls hP hS hl
  subst hv
  exact lv_ldc2 hx hb hown (hts _ hw) hd (kk H locs ls hP hS hl)

theorem z_iload_n {k : Fin 4} {i : Nat} {x : Int32} (j : Nat) (hc : z_C κ own cc n lam mc ms) (hd : decode cc pc = .ok (.iload_n k, 1)) (hj : L[j]? = some (i, .int x)) (hi : (k : Nat) = i) (kk : z_V κ T N a cells slots (pc + 1) L (.int x :: S) st) : z_V κ T N a cells slots pc L S st := by
  obtain ⟨p, l, e, R, s, m, args, below, meth, c, Q, A, D, cA, nL⟩ := κ
  obtain ⟨hx, hb, hml, hn, hown, hts, hlk, hK, hA, hfr, hlo, hce, hsl, hX9, htr⟩ := hc
  intro H locs ls hP hS hl
  exact lv_iload_n hx hb hd hi (lv_at hl j hj) (kk H locs ls hP hS hl)
theorem z_iload {i : Nat} {x : Int32} (j : Nat) (hc : z_C κ own cc n lam mc ms) (hd : decode cc pc = .ok (.iload i, 2)) (hj : L[j]? = some (i, .int x)) (kk : z_V κ T N a cells slots (pc + 2) L (.int x :: S) st) : z_V κ T N a cells slots pc L S st := by
  obtain ⟨p, l, e, R, s, m, args, below, meth, c, Q, A, D, cA, nL⟩ := κ
  obtain ⟨hx, hb, hml, hn, hown, hts, hlk, hK, hA, hfr, hlo, hce, hsl, hX9, htr⟩ := hc
  intro H locs ls hP hS hl
  exact lv_iload hx hb hd (lv_at hl j hj) (kk H locs ls hP hS hl)

theorem z_lload_n {k : Fin 4} {i : Nat} {x : Int64} (j : Nat) (hc : z_C κ own cc n lam mc ms) (hd : decode cc pc = .ok (.lload_n k, 1)) (hj : L[j]? = some (i, .long x)) (hi : (k : Nat) = i) (kk : z_V κ T N a cells slots (pc + 1) L (.long x :: S) st) : z_V κ T N a cells slots pc L S st := by
  obtain ⟨p, l, e, R, s, m, args, below, meth, c, Q, A, D, cA, nL⟩ := κ
  obtain ⟨hx, hb, hml, hn, hown, hts, hlk, hK, hA, hfr, hlo, hce, hsl, hX9, htr⟩ := hc
  intro H locs ls hP hS hl
  exact lv_lload_n hx hb hd hi (lv_at hl j hj) (kk H locs ls hP hS hl)
theorem z_lload {i : Nat} {x : Int64} (j : Nat) (hc : z_C κ own cc n lam mc ms) (hd : decode cc pc = .ok (.lload i, 2)) (hj : L[j]? = some (i, .long x)) (kk : z_V κ T N a cells slots (pc + 2) L (.long x :: S) st) : z_V κ T N a cells slots pc L S st := by
  obtain ⟨p, l, e, R, s, m, args, below, meth, c, Q, A, D, cA, nL⟩ := κ
  obtain ⟨hx, hb, hml, hn, hown, hts, hlk, hK, hA, hfr, hlo, hce, hsl, hX9, htr⟩ := hc
  intro H locs ls hP hS hl
  exact lv_lload hx hb hd (lv_at hl j hj) (kk H locs ls hP hS hl)

theorem z_aload_n {k : Fin 4} {i : Nat} {x : Nat} (j : Nat) (hc : z_C κ own cc n lam mc ms) (hd : decode cc pc = .ok (.aload_n k, 1)) (hj : L[j]? = some (i, .ref x)) (hi : (k : Nat) = i) (kk : z_V κ T N a cells slots (pc + 1) L (.ref x :: S) st) : z_V κ T N a cells slots pc L S st := by
  obtain ⟨p, l, e, R, s, m, args, below, meth, c, Q, A, D, cA, nL⟩ := κ
  obtain ⟨hx, hb, hml, hn, hown, hts, hlk, hK, hA, hfr, hlo, hce, hsl, hX9, htr⟩ := hc
  intro H locs ls hP hS hl
  exact lv_aload_n hx hb hd hi (lv_at hl j hj) (kk H locs ls hP hS hl)
theorem z_aload {i : Nat} {x : Nat} (j : Nat) (hc : z_C κ own cc n lam mc ms) (hd : decode cc pc = .ok (.aload i, 2)) (hj : L[j]? = some (i, .ref x)) (kk : z_V κ T N a cells slots (pc + 2) L (.ref x :: S) st) : z_V κ T N a cells slots pc L S st := by
  obtain ⟨p, l, e, R, s, m, args, below, meth, c, Q, A, D, cA, nL⟩ := κ
  obtain ⟨hx, hb, hml, hn, hown, hts, hlk, hK, hA, hfr, hlo, hce, hsl, hX9, htr⟩ := hc
  intro H locs ls hP hS hl
  exact lv_aload hx hb hd (lv_at hl j hj) (kk H locs ls hP hS hl)

theorem z_istore_n {k : Fin 4} {i : Nat} {x : Int32} (L' : List (Nat × Value)) (hc : z_C κ own cc n lam mc ms) (hd : decode cc pc = .ok (.istore_n k, 1)) (hi : (k : Nat) = i) (hlt : i < n) (hL : (i, Value.int x) :: L.filter (fun q => !(q.1 == i) && !(q.1 + 1 == i && q.2.category == 2)) = L') (kk : z_V κ T N a cells slots (pc + 1) L' S st) : z_V κ T N a cells slots pc L (.int x :: S) st := by
  obtain ⟨p, l, e, R, s, m, args, below, meth, c, Q, A, D, cA, nL⟩ := κ
  obtain ⟨hx, hb, hml, hn, hown, hts, hlk, hK, hA, hfr, hlo, hce, hsl, hX9, htr⟩ := hc
  intro H locs ls hP hS hl
  exact lv_istore_n hx hb hd hi hl (by rw [hn]; exact hlt) hL (fun ls' hl' => kk H locs ls' hP hS hl')
theorem z_istore {i : Nat} {x : Int32} (L' : List (Nat × Value)) (hc : z_C κ own cc n lam mc ms) (hd : decode cc pc = .ok (.istore i, 2)) (hlt : i < n) (hL : (i, Value.int x) :: L.filter (fun q => !(q.1 == i) && !(q.1 + 1 == i && q.2.category == 2)) = L') (kk : z_V κ T N a cells slots (pc + 2) L' S st) : z_V κ T N a cells slots pc L (.int x :: S) st := by
  obtain ⟨p, l, e, R, s, m, args, below, meth, c, Q, A, D, cA, nL⟩ := κ
  obtain ⟨hx, hb, hml, hn, hown, hts, hlk, hK, hA, hfr, hlo, hce, hsl, hX9, htr⟩ := hc
  intro H locs ls hP hS hl
  exact lv_istore hx hb hd hl (by rw [hn]; exact hlt) hL (fun ls' hl' => kk H locs ls' hP hS hl')

theorem z_astore_n {k : Fin 4} {i : Nat} {x : Nat} (L' : List (Nat × Value)) (hc : z_C κ own cc n lam mc ms) (hd : decode cc pc = .ok (.astore_n k, 1)) (hi : (k : Nat) = i) (hlt : i < n) (hL : (i, Value.ref x) :: L.filter (fun q => !(q.1 == i) && !(q.1 + 1 == i && q.2.category == 2)) = L') (kk : z_V κ T N a cells slots (pc + 1) L' S st) : z_V κ T N a cells slots pc L (.ref x :: S) st := by
  obtain ⟨p, l, e, R, s, m, args, below, meth, c, Q, A, D, cA, nL⟩ := κ
  obtain ⟨hx, hb, hml, hn, hown, hts, hlk, hK, hA, hfr, hlo, hce, hsl, hX9, htr⟩ := hc
  intro H locs ls hP hS hl
  exact lv_astore_n hx hb hd hi hl (by rw [hn]; exact hlt) hL (fun ls' hl' => kk H locs ls' hP hS hl')
theorem z_astore {i : Nat} {x : Nat} (L' : List (Nat × Value)) (hc : z_C κ own cc n lam mc ms) (hd : decode cc pc = .ok (.astore i, 2)) (hlt : i < n) (hL : (i, Value.ref x) :: L.filter (fun q => !(q.1 == i) && !(q.1 + 1 == i && q.2.category == 2)) = L') (kk : z_V κ T N a cells slots (pc + 2) L' S st) : z_V κ T N a cells slots pc L (.ref x :: S) st := by
  obtain ⟨p, l, e, R, s, m, args, below, meth, c, Q, A, D, cA, nL⟩ := κ
  obtain ⟨hx, hb, hml, hn, hown, hts, hlk, hK, hA, hfr, hlo, hce, hsl, hX9, htr⟩ := hc
  intro H locs ls hP hS hl
  exact lv_astore hx hb hd hl (by rw [hn]; exact hlt) hL (fun ls' hl' => kk H locs ls' hP hS hl')

theorem z_lstore_n {k : Fin 4} {i : Nat} {x : Int64} (L' : List (Nat × Value)) (hc : z_C κ own cc n lam mc ms) (hd : decode cc pc = .ok (.lstore_n k, 1)) (hi : (k : Nat) = i) (hlt : i + 1 < n) (hL : (i, Value.long x) :: L.filter (fun q => !(q.1 == i) && (!(q.1 == i + 1) && !(q.1 + 1 == i && q.2.category == 2))) = L') (kk : z_V κ T N a cells slots (pc + 1) L' S st) : z_V κ T N a cells slots pc L (.long x :: S) st := by
  obtain ⟨p, l, e, R, s, m, args, below, meth, c, Q, A, D, cA, nL⟩ := κ
  obtain ⟨hx, hb, hml, hn, hown, hts, hlk, hK, hA, hfr, hlo, hce, hsl, hX9, htr⟩ := hc
  intro H locs ls hP hS hl
  exact lv_lstore_n hx hb hd hi hl (by rw [hn]; exact hlt) hL (fun ls' hl' => kk H locs ls' hP hS hl')
theorem z_lstore {i : Nat} {x : Int64} (L' : List (Nat × Value)) (hc : z_C κ own cc n lam mc ms) (hd : decode cc pc = .ok (.lstore i, 2)) (hlt : i + 1 < n) (hL : (i, Value.long x) :: L.filter (fun q => !(q.1 == i) && (!(q.1 == i + 1) && !(q.1 + 1 == i && q.2.category == 2))) = L') (kk : z_V κ T N a cells slots (pc + 2) L' S st) : z_V κ T N a cells slots pc L (.long x :: S) st := by
  obtain ⟨p, l, e, R, s, m, args, below, meth, c, Q, A, D, cA, nL⟩ := κ
  obtain ⟨hx, hb, hml, hn, hown, hts, hlk, hK, hA, hfr, hlo, hce, hsl, hX9, htr⟩ := hc
  intro H locs ls hP hS hl
  exact lv_lstore hx hb hd hl (by rw [hn]; exact hlt) hL (fun ls' hl' => kk H locs ls' hP hS hl')

theorem z_iinc {i : Nat} {k x : Int} (L' : List (Nat × Value)) (j : Nat) (hc : z_C κ own cc n lam mc ms) (hd : decode cc pc = .ok (.iinc i k, 3)) (hj : L[j]? = some (i, .int (zI x))) (hlt : i < n) (hL : (i, Value.int (zI (x + k))) :: L.filter (fun q => !(q.1 == i) && !(q.1 + 1 == i && q.2.category == 2)) = L') (kk : z_V κ T N a cells slots (pc + 3) L' S st) : z_V κ T N a cells slots pc L S st := by
  obtain ⟨p, l, e, R, s, m, args, below, meth, c, Q, A, D, cA, nL⟩ := κ
  obtain ⟨hx, hb, hml, hn, hown, hts, hlk, hK, hA, hfr, hlo, hce, hsl, hX9, htr⟩ := hc
  intro H locs ls hP hS hl
  exact lv_iinc hx hb hd hl hj (show zI x + zI k = zI (x + k) from zI_add x k) (by rw [hn]; exact hlt) hL (fun ls' hl' => kk H locs ls' hP hS hl')
theorem z_sub (L' : List (Nat × Value)) (ks : List Nat) (hL : lv_pick L ks = L') (kk : z_V κ T N a cells slots pc L' S st) : z_V κ T N a cells slots pc L S st := by
  obtain ⟨p, l, e, R, s, m, args, below, meth, c, Q, A, D, cA, nL⟩ := κ
  intro H locs ls hP hS hl
  exact kk H locs ls hP hS (lv_sub hl ks hL)
theorem z_wide {cells' slots' : Nat} (h1 : cells ≤ cells') (h2 : slots ≤ slots') (kk : z_V κ T N a cells' slots' pc L S st) : z_V κ T N a cells slots pc L S st := by
  obtain ⟨p, l, e, R, s, m, args, below, meth, c, Q, A, D, cA, nL⟩ := κ
  intro H locs ls hP hS hl
  exact W.widen h1 h2 (kk H locs ls hP hS hl)

theorem z_iadd {x y : Int} (hc : z_C κ own cc n lam mc ms) (hd : decode cc pc = .ok (.iadd, 1)) (kk : z_V κ T N a cells slots (pc + 1) L (.int (zI (x + y)) :: S) st) : z_V κ T N a cells slots pc L (.int (zI y) :: .int (zI x) :: S) st := by
  obtain ⟨p, l, e, R, s, m, args, below, meth, c, Q, A, D, cA, nL⟩ := κ
  obtain ⟨hx, hb, hml, hn, hown, hts, hlk, hK, hA, hfr, hlo, hce, hsl, hX9, htr⟩ := hc
  intro H locs ls hP hS hl
  refine lv_iadd hx hb hd ?_
  rw [zI_add]
  exact kk H locs ls hP hS hl

theorem z_isub {x y : Int} (hc : z_C κ own cc n lam mc ms) (hd : decode cc pc = .ok (.isub, 1)) (kk : z_V κ T N a cells slots (pc + 1) L (.int (zI (x - y)) :: S) st) : z_V κ T N a cells slots pc L (.int (zI y) :: .int (zI x) :: S) st := by
  obtain ⟨p, l, e, R, s, m, args, below, meth, c, Q, A, D, cA, nL⟩ := κ
  obtain ⟨hx, hb, hml, hn, hown, hts, hlk, hK, hA, hfr, hlo, hce, hsl, hX9, htr⟩ := hc
  intro H locs ls hP hS hl
  refine lv_isub hx hb hd ?_
  rw [zI_sub]
  exact kk H locs ls hP hS hl

theorem z_imul {x y : Int} (hc : z_C κ own cc n lam mc ms) (hd : decode cc pc = .ok (.imul, 1)) (kk : z_V κ T N a cells slots (pc + 1) L (.int (zI (x * y)) :: S) st) : z_V κ T N a cells slots pc L (.int (zI y) :: .int (zI x) :: S) st := by
  obtain ⟨p, l, e, R, s, m, args, below, meth, c, Q, A, D, cA, nL⟩ := κ
  obtain ⟨hx, hb, hml, hn, hown, hts, hlk, hK, hA, hfr, hlo, hce, hsl, hX9, htr⟩ := hc
  intro H locs ls hP hS hl
  refine lv_imul hx hb hd ?_
  rw [zI_mul]
  exact kk H locs ls hP hS hl

theorem z_ladd {x y : Int} (hc : z_C κ own cc n lam mc ms) (hd : decode cc pc = .ok (.ladd, 1)) (kk : z_V κ T N a cells slots (pc + 1) L (.long (zJ (x + y)) :: S) st) : z_V κ T N a cells slots pc L (.long (zJ y) :: .long (zJ x) :: S) st := by
  obtain ⟨p, l, e, R, s, m, args, below, meth, c, Q, A, D, cA, nL⟩ := κ
  obtain ⟨hx, hb, hml, hn, hown, hts, hlk, hK, hA, hfr, hlo, hce, hsl, hX9, htr⟩ := hc
  intro H locs ls hP hS hl
  refine lv_ladd hx hb hd ?_
  rw [zJ_add]
  exact kk H locs ls hP hS hl

theorem z_lsub {x y : Int} (hc : z_C κ own cc n lam mc ms) (hd : decode cc pc = .ok (.lsub, 1)) (kk : z_V κ T N a cells slots (pc + 1) L (.long (zJ (x - y)) :: S) st) : z_V κ T N a cells slots pc L (.long (zJ y) :: .long (zJ x) :: S) st := by
  obtain ⟨p, l, e, R, s, m, args, below, meth, c, Q, A, D, cA, nL⟩ := κ
  obtain ⟨hx, hb, hml, hn, hown, hts, hlk, hK, hA, hfr, hlo, hce, hsl, hX9, htr⟩ := hc
  intro H locs ls hP hS hl
  refine lv_lsub hx hb hd ?_
  rw [zJ_sub]
  exact kk H locs ls hP hS hl

theorem z_lmul {x y : Int} (hc : z_C κ own cc n lam mc ms) (hd : decode cc pc = .ok (.lmul, 1)) (kk : z_V κ T N a cells slots (pc + 1) L (.long (zJ (x * y)) :: S) st) : z_V κ T N a cells slots pc L (.long (zJ y) :: .long (zJ x) :: S) st := by
  obtain ⟨p, l, e, R, s, m, args, below, meth, c, Q, A, D, cA, nL⟩ := κ
  obtain ⟨hx, hb, hml, hn, hown, hts, hlk, hK, hA, hfr, hlo, hce, hsl, hX9, htr⟩ := hc
  intro H locs ls hP hS hl
  refine lv_lmul hx hb hd ?_
  rw [zJ_mul]
  exact kk H locs ls hP hS hl

theorem z_lneg {x : Int} (hc : z_C κ own cc n lam mc ms) (hd : decode cc pc = .ok (.lneg, 1)) (kk : z_V κ T N a cells slots (pc + 1) L (.long (zJ (-x)) :: S) st) : z_V κ T N a cells slots pc L (.long (zJ x) :: S) st := by
  obtain ⟨p, l, e, R, s, m, args, below, meth, c, Q, A, D, cA, nL⟩ := κ
  obtain ⟨hx, hb, hml, hn, hown, hts, hlk, hK, hA, hfr, hlo, hce, hsl, hX9, htr⟩ := hc
  intro H locs ls hP hS hl
  refine lv_lneg hx hb hd ?_
  rw [zJ_neg]
  exact kk H locs ls hP hS hl

theorem z_idiv {α : Type} {X : Option α} {o : α} {x y : Int} (hc : z_C κ own cc n lam mc ms) (hd : decode cc pc = .ok (.idiv, 1)) (h : z_g (z32 x ∧ z32 y ∧ y ≠ 0) X = some o) (kk : X = some o → z_V κ T N a cells slots (pc + 1) L (.int (zI (x.tdiv y)) :: S) st) : z_V κ T N a cells slots pc L (.int (zI y) :: .int (zI x) :: S) st := by
  obtain ⟨p, l, e, R, s, m, args, below, meth, c, Q, A, D, cA, nL⟩ := κ
  obtain ⟨hx, hb, hml, hn, hown, hts, hlk, hK, hA, hfr, hlo, hce, hsl, hX9, htr⟩ := hc
  intro H locs ls hP hS hl
  obtain ⟨⟨h1, h2, h3⟩, h⟩ := z_g_some h
  refine lv_idiv hx hb hd (fun q => h3 ((zI_eq h2 (y := 0) ⟨by decide, by decide⟩).mp q)) ?_
  rw [zI_div h1 h2]
  exact kk h H locs ls hP hS hl

theorem z_irem {α : Type} {X : Option α} {o : α} {x y : Int} (hc : z_C κ own cc n lam mc ms) (hd : decode cc pc = .ok (.irem, 1)) (h : z_g (z32 x ∧ z32 y ∧ y ≠ 0) X = some o) (kk : X = some o → z_V κ T N a cells slots (pc + 1) L (.int (zI (x.tmod y)) :: S) st) : z_V κ T N a cells slots pc L (.int (zI y) :: .int (zI x) :: S) st := by
  obtain ⟨p, l, e, R, s, m, args, below, meth, c, Q, A, D, cA, nL⟩ := κ
  obtain ⟨hx, hb, hml, hn, hown, hts, hlk, hK, hA, hfr, hlo, hce, hsl, hX9, htr⟩ := hc
  intro H locs ls hP hS hl
  obtain ⟨⟨h1, h2, h3⟩, h⟩ := z_g_some h
  refine lv_irem hx hb hd (fun q => h3 ((zI_eq h2 (y := 0) ⟨by decide, by decide⟩).mp q)) ?_
  rw [zI_rem h1 h2]
  exact kk h H locs ls hP hS hl

theorem z_ldiv {α : Type} {X : Option α} {o : α} {x y : Int} (hc : z_C κ own cc n lam mc ms) (hd : decode cc pc = .ok (.ldiv, 1)) (h : z_g (z64 x ∧ z64 y ∧ y ≠ 0) X = some o) (kk : X = some o → z_V κ T N a cells slots (pc + 1) L (.long (zJ (x.tdiv y)) :: S) st) : z_V κ T N a cells slots pc L (.long (zJ y) :: .long (zJ x) :: S) st := by
  obtain ⟨p, l, e, R, s, m, args, below, meth, c, Q, A, D, cA, nL⟩ := κ
  obtain ⟨hx, hb, hml, hn, hown, hts, hlk, hK, hA, hfr, hlo, hce, hsl, hX9, htr⟩ := hc
  intro H locs ls hP hS hl
  obtain ⟨⟨h1, h2, h3⟩, h⟩ := z_g_some h
  refine lv_ldiv hx hb hd (fun q => h3 ((zJ_eq h2 (y := 0) ⟨by decide, by decide⟩).mp q)) ?_
  rw [zJ_div h1 h2]
  exact kk h H locs ls hP hS hl

theorem z_lrem {α : Type} {X : Option α} {o : α} {x y : Int} (hc : z_C κ own cc n lam mc ms) (hd : decode cc pc = .ok (.lrem, 1)) (h : z_g (z64 x ∧ z64 y ∧ y ≠ 0) X = some o) (kk : X = some o → z_V κ T N a cells slots (pc + 1) L (.long (zJ (x.tmod y)) :: S) st) : z_V κ T N a cells slots pc L (.long (zJ y) :: .long (zJ x) :: S) st := by
  obtain ⟨p, l, e, R, s, m, args, below, meth, c, Q, A, D, cA, nL⟩ := κ
  obtain ⟨hx, hb, hml, hn, hown, hts, hlk, hK, hA, hfr, hlo, hce, hsl, hX9, htr⟩ := hc
  intro H locs ls hP hS hl
  obtain ⟨⟨h1, h2, h3⟩, h⟩ := z_g_some h
  refine lv_lrem hx hb hd (fun q => h3 ((zJ_eq h2 (y := 0) ⟨by decide, by decide⟩).mp q)) ?_
  rw [zJ_rem h1 h2]
  exact kk h H locs ls hP hS hl

theorem z_i2l {α : Type} {X : Option α} {o : α} {x : Int} (hc : z_C κ own cc n lam mc ms) (hd : decode cc pc = .ok (.i2l, 1)) (h : z_g (z32 x) X = some o) (kk : X = some o → z_V κ T N a cells slots (pc + 1) L (.long (zJ x) :: S) st) : z_V κ T N a cells slots pc L (.int (zI x) :: S) st := by
  obtain ⟨p, l, e, R, s, m, args, below, meth, c, Q, A, D, cA, nL⟩ := κ
  obtain ⟨hx, hb, hml, hn, hown, hts, hlk, hK, hA, hfr, hlo, hce, hsl, hX9, htr⟩ := hc
  intro H locs ls hP hS hl
  obtain ⟨h1, h⟩ := z_g_some h
  exact lv_i2l hx hb hd (zI_zJ h1) (kk h H locs ls hP hS hl)
theorem z_i2lc {x : Int} (hc : z_C κ own cc n lam mc ms) (hd : decode cc pc = .ok (.i2l, 1)) (h : z32 x) (kk : z_V κ T N a cells slots (pc + 1) L (.long (zJ x) :: S) st) : z_V κ T N a cells slots pc L (.int (zI x) :: S) st := by
  obtain ⟨p, l, e, R, s, m, args, below, meth, c, Q, A, D, cA, nL⟩ := κ
  obtain ⟨hx, hb, hml, hn, hown, hts, hlk, hK, hA, hfr, hlo, hce, hsl, hX9, htr⟩ := hc
  intro H locs ls hP hS hl
  exact lv_i2l hx hb hd (zI_zJ h) (kk H locs ls hP hS hl)
theorem z_l2i {x : Int} (hc : z_C κ own cc n lam mc ms) (hd : decode cc pc = .ok (.l2i, 1)) (kk : z_V κ T N a cells slots (pc + 1) L (.int (zI x) :: S) st) : z_V κ T N a cells slots pc L (.long (zJ x) :: S) st := by
  obtain ⟨p, l, e, R, s, m, args, below, meth, c, Q, A, D, cA, nL⟩ := κ
  obtain ⟨hx, hb, hml, hn, hown, hts, hlk, hK, hA, hfr, hlo, hce, hsl, hX9, htr⟩ := hc
  intro H locs ls hP hS hl
  exact lv_l2i hx hb hd (zJ_zI x) (kk H locs ls hP hS hl)
theorem z_dup {v : Value} (hc : z_C κ own cc n lam mc ms) (hd : decode cc pc = .ok (.dup, 1)) (hv : v.category = 1) (kk : z_V κ T N a cells slots (pc + 1) L (v :: v :: S) st) : z_V κ T N a cells slots pc L (v :: S) st := by
  obtain ⟨p, l, e, R, s, m, args, below, meth, c, Q, A, D, cA, nL⟩ := κ
  obtain ⟨hx, hb, hml, hn, hown, hts, hlk, hK, hA, hfr, hlo, hce, hsl, hX9, htr⟩ := hc
  intro H locs ls hP hS hl
  exact lv_dup hx hb hd hv (kk H locs ls hP hS hl)
theorem z_pop {v : Value} (hc : z_C κ own cc n lam mc ms) (hd : decode cc pc = .ok (.pop, 1)) (hv : v.category = 1) (kk : z_V κ T N a cells slots (pc + 1) L S st) : z_V κ T N a cells slots pc L (v :: S) st := by
  obtain ⟨p, l, e, R, s, m, args, below, meth, c, Q, A, D, cA, nL⟩ := κ
  obtain ⟨hx, hb, hml, hn, hown, hts, hlk, hK, hA, hfr, hlo, hce, hsl, hX9, htr⟩ := hc
  intro H locs ls hP hS hl
  exact lv_pop hx hb hd hv (kk H locs ls hP hS hl)
theorem z_dup2 {v u : Value} (hc : z_C κ own cc n lam mc ms) (hd : decode cc pc = .ok (.dup2, 1)) (hv : v.category = 1) (hu : u.category = 1) (kk : z_V κ T N a cells slots (pc + 1) L (v :: u :: v :: u :: S) st) : z_V κ T N a cells slots pc L (v :: u :: S) st := by
  obtain ⟨p, l, e, R, s, m, args, below, meth, c, Q, A, D, cA, nL⟩ := κ
  obtain ⟨hx, hb, hml, hn, hown, hts, hlk, hK, hA, hfr, hlo, hce, hsl, hX9, htr⟩ := hc
  intro H locs ls hP hS hl
  exact lv_dup2_11 hx hb hd hv hu (kk H locs ls hP hS hl)
theorem z_goto {off : Int} {tgt : Nat} (hc : z_C κ own cc n lam mc ms) (hd : decode cc pc = .ok (.goto off, 3)) (ht : (pc : Int) + off = (tgt : Int)) (kk : z_V κ T N a cells slots tgt L S st) : z_V κ T N a cells slots pc L S st := by
  obtain ⟨p, l, e, R, s, m, args, below, meth, c, Q, A, D, cA, nL⟩ := κ
  obtain ⟨hx, hb, hml, hn, hown, hts, hlk, hK, hA, hfr, hlo, hce, hsl, hX9, htr⟩ := hc
  intro H locs ls hP hS hl
  exact lv_goto hx hb hd ht (kk H locs ls hP hS hl)

def z_iop (f : Int32 → Int32 → Int32) (x y : Int) : Int := (f (zI x) (zI y)).toInt
def z_lop (f : Int64 → Int64 → Int64) (x y : Int) : Int := (f (zJ x) (zJ y)).toInt
abbrev z_ishr : Int → Int → Int := z_iop (fun x y => x >>> (y &&& 31))
abbrev z_ishl : Int → Int → Int := z_iop (fun x y => x <<< (y &&& 31))
abbrev z_iand : Int → Int → Int := z_iop (fun x y => x &&& y)
abbrev z_ior : Int → Int → Int := z_iop (fun x y => x ||| y)
abbrev z_land : Int → Int → Int := z_lop (fun x y => x &&& y)
abbrev z_lor : Int → Int → Int := z_lop (fun x y => x ||| y)
def z_lsh (f : Int64 → Int64 → Int64) (x y : Int) : Int := (f (zJ x) ((zI y).toInt64)).toInt
abbrev z_lshl : Int → Int → Int := z_lsh (fun x y => x <<< (y &&& 63))
abbrev z_lshr : Int → Int → Int := z_lsh (fun x y => x >>> (y &&& 63))
def z_i2cv (x : Int) : Int := (((zI x).toUInt32 % 65536).toInt32).toInt

theorem z_ishr_r {x y : Int} (hc : z_C κ own cc n lam mc ms) (hd : decode cc pc = .ok (.ishr, 1)) (kk : z_V κ T N a cells slots (pc + 1) L (.int (zI (z_ishr x y)) :: S) st) : z_V κ T N a cells slots pc L (.int (zI y) :: .int (zI x) :: S) st := by
  obtain ⟨p, l, e, R, s, m, args, below, meth, c, Q, A, D, cA, nL⟩ := κ
  obtain ⟨hx, hb, hml, hn, hown, hts, hlk, hK, hA, hfr, hlo, hce, hsl, hX9, htr⟩ := hc
  intro H locs ls hP hS hl
  refine lv_ishr hx hb hd ?_
  rw [show zI x >>> (zI y &&& 31) = zI (z_ishr x y) from zI_of _]
  exact kk H locs ls hP hS hl

theorem z_ishl_r {x y : Int} (hc : z_C κ own cc n lam mc ms) (hd : decode cc pc = .ok (.ishl, 1)) (kk : z_V κ T N a cells slots (pc + 1) L (.int (zI (z_ishl x y)) :: S) st) : z_V κ T N a cells slots pc L (.int (zI y) :: .int (zI x) :: S) st := by
  obtain ⟨p, l, e, R, s, m, args, below, meth, c, Q, A, D, cA, nL⟩ := κ
  obtain ⟨hx, hb, hml, hn, hown, hts, hlk, hK, hA, hfr, hlo, hce, hsl, hX9, htr⟩ := hc
  intro H locs ls hP hS hl
  refine lv_ishl hx hb hd ?_
  rw [show zI x <<< (zI y &&& 31) = zI (z_ishl x y) from zI_of _]
  exact kk H locs ls hP hS hl

theorem z_iand_r {x y : Int} (hc : z_C κ own cc n lam mc ms) (hd : decode cc pc = .ok (.iand, 1)) (kk : z_V κ T N a cells slots (pc + 1) L (.int (zI (z_iand x y)) :: S) st) : z_V κ T N a cells slots pc L (.int (zI y) :: .int (zI x) :: S) st := by
  obtain ⟨p, l, e, R, s, m, args, below, meth, c, Q, A, D, cA, nL⟩ := κ
  obtain ⟨hx, hb, hml, hn, hown, hts, hlk, hK, hA, hfr, hlo, hce, hsl, hX9, htr⟩ := hc
  intro H locs ls hP hS hl
  refine lv_iand hx hb hd ?_
  rw [show zI x &&& zI y = zI (z_iand x y) from zI_of _]
  exact kk H locs ls hP hS hl

theorem z_ior_r {x y : Int} (hc : z_C κ own cc n lam mc ms) (hd : decode cc pc = .ok (.ior, 1)) (kk : z_V κ T N a cells slots (pc + 1) L (.int (zI (z_ior x y)) :: S) st) : z_V κ T N a cells slots pc L (.int (zI y) :: .int (zI x) :: S) st := by
  obtain ⟨p, l, e, R, s, m, args, below, meth, c, Q, A, D, cA, nL⟩ := κ
  obtain ⟨hx, hb, hml, hn, hown, hts, hlk, hK, hA, hfr, hlo, hce, hsl, hX9, htr⟩ := hc
  intro H locs ls hP hS hl
  refine lv_ior hx hb hd ?_
  rw [show zI x ||| zI y = zI (z_ior x y) from zI_of _]
  exact kk H locs ls hP hS hl

theorem z_land_r {x y : Int} (hc : z_C κ own cc n lam mc ms) (hd : decode cc pc = .ok (.land, 1)) (kk : z_V κ T N a cells slots (pc + 1) L (.long (zJ (z_land x y)) :: S) st) : z_V κ T N a cells slots pc L (.long (zJ y) :: .long (zJ x) :: S) st := by
  obtain ⟨p, l, e, R, s, m, args, below, meth, c, Q, A, D, cA, nL⟩ := κ
  obtain ⟨hx, hb, hml, hn, hown, hts, hlk, hK, hA, hfr, hlo, hce, hsl, hX9, htr⟩ := hc
  intro H locs ls hP hS hl
  refine lv_land hx hb hd ?_
  rw [show zJ x &&& zJ y = zJ (z_land x y) from zJ_of _]
  exact kk H locs ls hP hS hl

theorem z_lor_r {x y : Int} (hc : z_C κ own cc n lam mc ms) (hd : decode cc pc = .ok (.lor, 1)) (kk : z_V κ T N a cells slots (pc + 1) L (.long (zJ (z_lor x y)) :: S) st) : z_V κ T N a cells slots pc L (.long (zJ y) :: .long (zJ x) :: S) st := by
  obtain ⟨p, l, e, R, s, m, args, below, meth, c, Q, A, D, cA, nL⟩ := κ
  obtain ⟨hx, hb, hml, hn, hown, hts, hlk, hK, hA, hfr, hlo, hce, hsl, hX9, htr⟩ := hc
  intro H locs ls hP hS hl
  refine lv_lor hx hb hd ?_
  rw [show zJ x ||| zJ y = zJ (z_lor x y) from zJ_of _]
  exact kk H locs ls hP hS hl

theorem z_lshl_r {x y : Int} (hc : z_C κ own cc n lam mc ms) (hd : decode cc pc = .ok (.lshl, 1)) (kk : z_V κ T N a cells slots (pc + 1) L (.long (zJ (z_lshl x y)) :: S) st) : z_V κ T N a cells slots pc L (.int (zI y) :: .long (zJ x) :: S) st := by
  obtain ⟨p, l, e, R, s, m, args, below, meth, c, Q, A, D, cA, nL⟩ := κ
  obtain ⟨hx, hb, hml, hn, hown, hts, hlk, hK, hA, hfr, hlo, hce, hsl, hX9, htr⟩ := hc
  intro H locs ls hP hS hl
  exact lv_lshl hx hb hd (zJ_of _) (kk H locs ls hP hS hl)

theorem z_lshr_r {x y : Int} (hc : z_C κ own cc n lam mc ms) (hd : decode cc pc = .ok (.lshr, 1)) (kk : z_V κ T N a cells slots (pc + 1) L (.long (zJ (z_lshr x y)) :: S) st) : z_V κ T N a cells slots pc L (.int (zI y) :: .long (zJ x) :: S) st := by
  obtain ⟨p, l, e, R, s, m, args, below, meth, c, Q, A, D, cA, nL⟩ := κ
  obtain ⟨hx, hb, hml, hn, hown, hts, hlk, hK, hA, hfr, hlo, hce, hsl, hX9, htr⟩ := hc
  intro H locs ls hP hS hl
  exact lv_lshr hx hb hd (zJ_of _) (kk H locs ls hP hS hl)

theorem z_i2c_r {x : Int} (hc : z_C κ own cc n lam mc ms) (hd : decode cc pc = .ok (.i2c, 1)) (kk : z_V κ T N a cells slots (pc + 1) L (.int (zI (z_i2cv x)) :: S) st) : z_V κ T N a cells slots pc L (.int (zI x) :: S) st := by
  obtain ⟨p, l, e, R, s, m, args, below, meth, c, Q, A, D, cA, nL⟩ := κ
  obtain ⟨hx, hb, hml, hn, hown, hts, hlk, hK, hA, hfr, hlo, hce, hsl, hX9, htr⟩ := hc
  intro H locs ls hP hS hl
  exact lv_i2c hx hb hd (zI_of _) (kk H locs ls hP hS hl)

theorem z_icmp_ge {α : Type} {X Y : Option α} {o : α} {x y off : Int} {tgt : Nat} (hc : z_C κ own cc n lam mc ms) (hd : decode cc pc = .ok (.if_icmp .ge off, 3)) (ht : (pc : Int) + off = (tgt : Int)) (h : z_g (z32 x ∧ z32 y) (if x < y then X else Y) = some o) (kt : x < y → X = some o → z_V κ T N a cells slots (pc + 3) L S st) (kf : ¬ (x < y) → Y = some o → z_V κ T N a cells slots tgt L S st) : z_V κ T N a cells slots pc L (.int (zI y) :: .int (zI x) :: S) st := by
  obtain ⟨p, l, e, R, s, m, args, below, meth, c, Q, A, D, cA, nL⟩ := κ
  obtain ⟨hx, hb, hml, hn, hown, hts, hlk, hK, hA, hfr, hlo, hce, hsl, hX9, htr⟩ := hc
  intro H locs ls hP hS hl
  obtain ⟨⟨h1, h2⟩, h⟩ := z_g_some h
  exact lv_icmp_ge hx hb hd ht (fun q => kf (by have := (zI_le h2 h1).mp q; omega) (by rw [if_neg (by have := (zI_le h2 h1).mp q; omega)] at h; exact h) H locs ls hP hS hl) (fun q => kt (by have : ¬ _ := fun z => q ((zI_le h2 h1).mpr z); omega) (by rw [if_pos (by have : ¬ _ := fun z => q ((zI_le h2 h1).mpr z); omega)] at h; exact h) H locs ls hP hS hl)

theorem z_if_ge {α : Type} {X Y : Option α} {o : α} {x off : Int} {tgt : Nat} (hc : z_C κ own cc n lam mc ms) (hd : decode cc pc = .ok (.ifCond .ge off, 3)) (ht : (pc : Int) + off = (tgt : Int)) (h : z_g (z32 x) (if x < 0 then X else Y) = some o) (kt : x < 0 → X = some o → z_V κ T N a cells slots (pc + 3) L S st) (kf : ¬ (x < 0) → Y = some o → z_V κ T N a cells slots tgt L S st) : z_V κ T N a cells slots pc L (.int (zI x) :: S) st := by
  obtain ⟨p, l, e, R, s, m, args, below, meth, c, Q, A, D, cA, nL⟩ := κ
  obtain ⟨hx, hb, hml, hn, hown, hts, hlk, hK, hA, hfr, hlo, hce, hsl, hX9, htr⟩ := hc
  intro H locs ls hP hS hl
  obtain ⟨h1, h⟩ := z_g_some h
  have h2 : z32 0 := ⟨by decide, by decide⟩
  exact lv_if_ge hx hb hd ht (fun q => kf (by have := (zI_le h2 h1).mp q; omega) (by rw [if_neg (by have := (zI_le h2 h1).mp q; omega)] at h; exact h) H locs ls hP hS hl) (fun q => kt (by have : ¬ _ := fun z => q ((zI_le h2 h1).mpr z); omega) (by rw [if_pos (by have : ¬ _ := fun z => q ((zI_le h2 h1).mpr z); omega)] at h; exact h) H locs ls hP hS hl)

theorem z_lcmp_ge {α : Type} {X Y : Option α} {o : α} {x y off : Int} {tgt : Nat} (hc : z_C κ own cc n lam mc ms) (hd0 : decode cc pc = .ok (.lcmp, 1)) (hd : decode cc (pc + 1) = .ok (.ifCond .ge off, 3)) (ht : ((pc + 1 : Nat) : Int) + off = (tgt : Int)) (h : z_g (z64 x ∧ z64 y) (if x < y then X else Y) = some o) (kt : x < y → X = some o → z_V κ T N a cells slots (pc + 4) L S st) (kf : ¬ (x < y) → Y = some o → z_V κ T N a cells slots tgt L S st) : z_V κ T N a cells slots pc L (.long (zJ y) :: .long (zJ x) :: S) st := by
  obtain ⟨p, l, e, R, s, m, args, below, meth, c, Q, A, D, cA, nL⟩ := κ
  obtain ⟨hx, hb, hml, hn, hown, hts, hlk, hK, hA, hfr, hlo, hce, hsl, hX9, htr⟩ := hc
  intro H locs ls hP hS hl
  obtain ⟨⟨h1, h2⟩, h⟩ := z_g_some h
  refine W.lcmp hx hb hd0 ?_
  have e := z_lgc h1 h2
  exact lv_if_ge hx hb hd ht (fun q => kf (by have := e.2.2.2.1.mp q; omega) (by rw [if_neg (by have := e.2.2.2.1.mp q; omega)] at h; exact h) H locs ls hP hS hl) (fun q => kt (by have : ¬ _ := fun z => q (e.2.2.2.1.mpr z); omega) (by rw [if_pos (by have : ¬ _ := fun z => q (e.2.2.2.1.mpr z); omega)] at h; exact h) H locs ls hP hS hl)

theorem z_icmp_lt {α : Type} {X Y : Option α} {o : α} {x y off : Int} {tgt : Nat} (hc : z_C κ own cc n lam mc ms) (hd : decode cc pc = .ok (.if_icmp .lt off, 3)) (ht : (pc : Int) + off = (tgt : Int)) (h : z_g (z32 x ∧ z32 y) (if x < y then X else Y) = some o) (kt : x < y → X = some o → z_V κ T N a cells slots tgt L S st) (kf : ¬ (x < y) → Y = some o → z_V κ T N a cells slots (pc + 3) L S st) : z_V κ T N a cells slots pc L (.int (zI y) :: .int (zI x) :: S) st := by
  obtain ⟨p, l, e, R, s, m, args, below, meth, c, Q, A, D, cA, nL⟩ := κ
  obtain ⟨hx, hb, hml, hn, hown, hts, hlk, hK, hA, hfr, hlo, hce, hsl, hX9, htr⟩ := hc
  intro H locs ls hP hS hl
  obtain ⟨⟨h1, h2⟩, h⟩ := z_g_some h
  exact lv_icmp_lt hx hb hd ht (fun q => kt ((zI_lt h1 h2).mp q) (by rw [if_pos ((zI_lt h1 h2).mp q)] at h; exact h) H locs ls hP hS hl) (fun q => kf (fun z => q ((zI_lt h1 h2).mpr z)) (by rw [if_neg (fun z => q ((zI_lt h1 h2).mpr z))] at h; exact h) H locs ls hP hS hl)

theorem z_if_lt {α : Type} {X Y : Option α} {o : α} {x off : Int} {tgt : Nat} (hc : z_C κ own cc n lam mc ms) (hd : decode cc pc = .ok (.ifCond .lt off, 3)) (ht : (pc : Int) + off = (tgt : Int)) (h : z_g (z32 x) (if x < 0 then X else Y) = some o) (kt : x < 0 → X = some o → z_V κ T N a cells slots tgt L S st) (kf : ¬ (x < 0) → Y = some o → z_V κ T N a cells slots (pc + 3) L S st) : z_V κ T N a cells slots pc L (.int (zI x) :: S) st := by
  obtain ⟨p, l, e, R, s, m, args, below, meth, c, Q, A, D, cA, nL⟩ := κ
  obtain ⟨hx, hb, hml, hn, hown, hts, hlk, hK, hA, hfr, hlo, hce, hsl, hX9, htr⟩ := hc
  intro H locs ls hP hS hl
  obtain ⟨h1, h⟩ := z_g_some h
  have h2 : z32 0 := ⟨by decide, by decide⟩
  exact lv_if_lt hx hb hd ht (fun q => kt ((zI_lt h1 h2).mp q) (by rw [if_pos ((zI_lt h1 h2).mp q)] at h; exact h) H locs ls hP hS hl) (fun q => kf (fun z => q ((zI_lt h1 h2).mpr z)) (by rw [if_neg (fun z => q ((zI_lt h1 h2).mpr z))] at h; exact h) H locs ls hP hS hl)

theorem z_lcmp_lt {α : Type} {X Y : Option α} {o : α} {x y off : Int} {tgt : Nat} (hc : z_C κ own cc n lam mc ms) (hd0 : decode cc pc = .ok (.lcmp, 1)) (hd : decode cc (pc + 1) = .ok (.ifCond .lt off, 3)) (ht : ((pc + 1 : Nat) : Int) + off = (tgt : Int)) (h : z_g (z64 x ∧ z64 y) (if x < y then X else Y) = some o) (kt : x < y → X = some o → z_V κ T N a cells slots tgt L S st) (kf : ¬ (x < y) → Y = some o → z_V κ T N a cells slots (pc + 4) L S st) : z_V κ T N a cells slots pc L (.long (zJ y) :: .long (zJ x) :: S) st := by
  obtain ⟨p, l, e, R, s, m, args, below, meth, c, Q, A, D, cA, nL⟩ := κ
  obtain ⟨hx, hb, hml, hn, hown, hts, hlk, hK, hA, hfr, hlo, hce, hsl, hX9, htr⟩ := hc
  intro H locs ls hP hS hl
  obtain ⟨⟨h1, h2⟩, h⟩ := z_g_some h
  refine W.lcmp hx hb hd0 ?_
  have e := z_lgc h1 h2
  exact lv_if_lt hx hb hd ht (fun q => kt (e.2.1.mp q) (by rw [if_pos (e.2.1.mp q)] at h; exact h) H locs ls hP hS hl) (fun q => kf (fun z => q (e.2.1.mpr z)) (by rw [if_neg (fun z => q (e.2.1.mpr z))] at h; exact h) H locs ls hP hS hl)

theorem z_icmp_gt {α : Type} {X Y : Option α} {o : α} {x y off : Int} {tgt : Nat} (hc : z_C κ own cc n lam mc ms) (hd : decode cc pc = .ok (.if_icmp .gt off, 3)) (ht : (pc : Int) + off = (tgt : Int)) (h : z_g (z32 x ∧ z32 y) (if y < x then X else Y) = some o) (kt : y < x → X = some o → z_V κ T N a cells slots tgt L S st) (kf : ¬ (y < x) → Y = some o → z_V κ T N a cells slots (pc + 3) L S st) : z_V κ T N a cells slots pc L (.int (zI y) :: .int (zI x) :: S) st := by
  obtain ⟨p, l, e, R, s, m, args, below, meth, c, Q, A, D, cA, nL⟩ := κ
  obtain ⟨hx, hb, hml, hn, hown, hts, hlk, hK, hA, hfr, hlo, hce, hsl, hX9, htr⟩ := hc
  intro H locs ls hP hS hl
  obtain ⟨⟨h1, h2⟩, h⟩ := z_g_some h
  exact lv_icmp_gt hx hb hd ht (fun q => kt ((zI_lt h2 h1).mp q) (by rw [if_pos ((zI_lt h2 h1).mp q)] at h; exact h) H locs ls hP hS hl) (fun q => kf (fun z => q ((zI_lt h2 h1).mpr z)) (by rw [if_neg (fun z => q ((zI_lt h2 h1).mpr z))] at h; exact h) H locs ls hP hS hl)

theorem z_if_gt {α : Type} {X Y : Option α} {o : α} {x off : Int} {tgt : Nat} (hc : z_C κ own cc n lam mc ms) (hd : decode cc pc = .ok (.ifCond .gt off, 3)) (ht : (pc : Int) + off = (tgt : Int)) (h : z_g (z32 x) (if 0 < x then X else Y) = some o) (kt : 0 < x → X = some o → z_V κ T N a cells slots tgt L S st) (kf : ¬ (0 < x) → Y = some o → z_V κ T N a cells slots (pc + 3) L S st) : z_V κ T N a cells slots pc L (.int (zI x) :: S) st := by
  obtain ⟨p, l, e, R, s, m, args, below, meth, c, Q, A, D, cA, nL⟩ := κ
  obtain ⟨hx, hb, hml, hn, hown, hts, hlk, hK, hA, hfr, hlo, hce, hsl, hX9, htr⟩ := hc
  intro H locs ls hP hS hl
  obtain ⟨h1, h⟩ := z_g_some h
  have h2 : z32 0 := ⟨by decide, by decide⟩
  exact lv_if_gt hx hb hd ht (fun q => kt ((zI_lt h2 h1).mp q) (by rw [if_pos ((zI_lt h2 h1).mp q)] at h; exact h) H locs ls hP hS hl) (fun q => kf (fun z => q ((zI_lt h2 h1).mpr z)) (by rw [if_neg (fun z => q ((zI_lt h2 h1).mpr z))] at h; exact h) H locs ls hP hS hl)

theorem z_lcmp_gt {α : Type} {X Y : Option α} {o : α} {x y off : Int} {tgt : Nat} (hc : z_C κ own cc n lam mc ms) (hd0 : decode cc pc = .ok (.lcmp, 1)) (hd : decode cc (pc + 1) = .ok (.ifCond .gt off, 3)) (ht : ((pc + 1 : Nat) : Int) + off = (tgt : Int)) (h : z_g (z64 x ∧ z64 y) (if y < x then X else Y) = some o) (kt : y < x → X = some o → z_V κ T N a cells slots tgt L S st) (kf : ¬ (y < x) → Y = some o → z_V κ T N a cells slots (pc + 4) L S st) : z_V κ T N a cells slots pc L (.long (zJ y) :: .long (zJ x) :: S) st := by
  obtain ⟨p, l, e, R, s, m, args, below, meth, c, Q, A, D, cA, nL⟩ := κ
  obtain ⟨hx, hb, hml, hn, hown, hts, hlk, hK, hA, hfr, hlo, hce, hsl, hX9, htr⟩ := hc
  intro H locs ls hP hS hl
  obtain ⟨⟨h1, h2⟩, h⟩ := z_g_some h
  refine W.lcmp hx hb hd0 ?_
  have e := z_lgc h1 h2
  exact lv_if_gt hx hb hd ht (fun q => kt (e.1.mp q) (by rw [if_pos (e.1.mp q)] at h; exact h) H locs ls hP hS hl) (fun q => kf (fun z => q (e.1.mpr z)) (by rw [if_neg (fun z => q (e.1.mpr z))] at h; exact h) H locs ls hP hS hl)

theorem z_icmp_le {α : Type} {X Y : Option α} {o : α} {x y off : Int} {tgt : Nat} (hc : z_C κ own cc n lam mc ms) (hd : decode cc pc = .ok (.if_icmp .le off, 3)) (ht : (pc : Int) + off = (tgt : Int)) (h : z_g (z32 x ∧ z32 y) (if y < x then X else Y) = some o) (kt : y < x → X = some o → z_V κ T N a cells slots (pc + 3) L S st) (kf : ¬ (y < x) → Y = some o → z_V κ T N a cells slots tgt L S st) : z_V κ T N a cells slots pc L (.int (zI y) :: .int (zI x) :: S) st := by
  obtain ⟨p, l, e, R, s, m, args, below, meth, c, Q, A, D, cA, nL⟩ := κ
  obtain ⟨hx, hb, hml, hn, hown, hts, hlk, hK, hA, hfr, hlo, hce, hsl, hX9, htr⟩ := hc
  intro H locs ls hP hS hl
  obtain ⟨⟨h1, h2⟩, h⟩ := z_g_some h
  exact lv_icmp_le hx hb hd ht (fun q => kf (by have := (zI_le h1 h2).mp q; omega) (by rw [if_neg (by have := (zI_le h1 h2).mp q; omega)] at h; exact h) H locs ls hP hS hl) (fun q => kt (by have : ¬ _ := fun z => q ((zI_le h1 h2).mpr z); omega) (by rw [if_pos (by have : ¬ _ := fun z => q ((zI_le h1 h2).mpr z); omega)] at h; exact h) H locs ls hP hS hl)

theorem z_if_le {α : Type} {X Y : Option α} {o : α} {x off : Int} {tgt : Nat} (hc : z_C κ own cc n lam mc ms) (hd : decode cc pc = .ok (.ifCond .le off, 3)) (ht : (pc : Int) + off = (tgt : Int)) (h : z_g (z32 x) (if 0 < x then X else Y) = some o) (kt : 0 < x → X = some o → z_V κ T N a cells slots (pc + 3) L S st) (kf : ¬ (0 < x) → Y = some o → z_V κ T N a cells slots tgt L S st) : z_V κ T N a cells slots pc L (.int (zI x) :: S) st := by
  obtain ⟨p, l, e, R, s, m, args, below, meth, c, Q, A, D, cA, nL⟩ := κ
  obtain ⟨hx, hb, hml, hn, hown, hts, hlk, hK, hA, hfr, hlo, hce, hsl, hX9, htr⟩ := hc
  intro H locs ls hP hS hl
  obtain ⟨h1, h⟩ := z_g_some h
  have h2 : z32 0 := ⟨by decide, by decide⟩
  exact lv_if_le hx hb hd ht (fun q => kf (by have := (zI_le h1 h2).mp q; omega) (by rw [if_neg (by have := (zI_le h1 h2).mp q; omega)] at h; exact h) H locs ls hP hS hl) (fun q => kt (by have : ¬ _ := fun z => q ((zI_le h1 h2).mpr z); omega) (by rw [if_pos (by have : ¬ _ := fun z => q ((zI_le h1 h2).mpr z); omega)] at h; exact h) H locs ls hP hS hl)

theorem z_lcmp_le {α : Type} {X Y : Option α} {o : α} {x y off : Int} {tgt : Nat} (hc : z_C κ own cc n lam mc ms) (hd0 : decode cc pc = .ok (.lcmp, 1)) (hd : decode cc (pc + 1) = .ok (.ifCond .le off, 3)) (ht : ((pc + 1 : Nat) : Int) + off = (tgt : Int)) (h : z_g (z64 x ∧ z64 y) (if y < x then X else Y) = some o) (kt : y < x → X = some o → z_V κ T N a cells slots (pc + 4) L S st) (kf : ¬ (y < x) → Y = some o → z_V κ T N a cells slots tgt L S st) : z_V κ T N a cells slots pc L (.long (zJ y) :: .long (zJ x) :: S) st := by
  obtain ⟨p, l, e, R, s, m, args, below, meth, c, Q, A, D, cA, nL⟩ := κ
  obtain ⟨hx, hb, hml, hn, hown, hts, hlk, hK, hA, hfr, hlo, hce, hsl, hX9, htr⟩ := hc
  intro H locs ls hP hS hl
  obtain ⟨⟨h1, h2⟩, h⟩ := z_g_some h
  refine W.lcmp hx hb hd0 ?_
  have e := z_lgc h1 h2
  exact lv_if_le hx hb hd ht (fun q => kf (by have := e.2.2.1.mp q; omega) (by rw [if_neg (by have := e.2.2.1.mp q; omega)] at h; exact h) H locs ls hP hS hl) (fun q => kt (by have : ¬ _ := fun z => q (e.2.2.1.mpr z); omega) (by rw [if_pos (by have : ¬ _ := fun z => q (e.2.2.1.mpr z); omega)] at h; exact h) H locs ls hP hS hl)

theorem z_icmp_eq {α : Type} {X Y : Option α} {o : α} {x y off : Int} {tgt : Nat} (hc : z_C κ own cc n lam mc ms) (hd : decode cc pc = .ok (.if_icmp .eq off, 3)) (ht : (pc : Int) + off = (tgt : Int)) (h : z_g (z32 x ∧ z32 y) (if x = y then X else Y) = some o) (kt : x = y → X = some o → z_V κ T N a cells slots tgt L S st) (kf : ¬ (x = y) → Y = some o → z_V κ T N a cells slots (pc + 3) L S st) : z_V κ T N a cells slots pc L (.int (zI y) :: .int (zI x) :: S) st := by
  obtain ⟨p, l, e, R, s, m, args, below, meth, c, Q, A, D, cA, nL⟩ := κ
  obtain ⟨hx, hb, hml, hn, hown, hts, hlk, hK, hA, hfr, hlo, hce, hsl, hX9, htr⟩ := hc
  intro H locs ls hP hS hl
  obtain ⟨⟨h1, h2⟩, h⟩ := z_g_some h
  exact lv_icmp_eq hx hb hd ht (fun q => kt ((zI_eq h1 h2).mp q) (by rw [if_pos ((zI_eq h1 h2).mp q)] at h; exact h) H locs ls hP hS hl) (fun q => kf (fun z => q ((zI_eq h1 h2).mpr z)) (by rw [if_neg (fun z => q ((zI_eq h1 h2).mpr z))] at h; exact h) H locs ls hP hS hl)

theorem z_if_eq {α : Type} {X Y : Option α} {o : α} {x off : Int} {tgt : Nat} (hc : z_C κ own cc n lam mc ms) (hd : decode cc pc = .ok (.ifCond .eq off, 3)) (ht : (pc : Int) + off = (tgt : Int)) (h : z_g (z32 x) (if x = 0 then X else Y) = some o) (kt : x = 0 → X = some o → z_V κ T N a cells slots tgt L S st) (kf : ¬ (x = 0) → Y = some o → z_V κ T N a cells slots (pc + 3) L S st) : z_V κ T N a cells slots pc L (.int (zI x) :: S) st := by
  obtain ⟨p, l, e, R, s, m, args, below, meth, c, Q, A, D, cA, nL⟩ := κ
  obtain ⟨hx, hb, hml, hn, hown, hts, hlk, hK, hA, hfr, hlo, hce, hsl, hX9, htr⟩ := hc
  intro H locs ls hP hS hl
  obtain ⟨h1, h⟩ := z_g_some h
  have h2 : z32 0 := ⟨by decide, by decide⟩
  exact lv_if_eq hx hb hd ht (fun q => kt ((zI_eq h1 h2).mp q) (by rw [if_pos ((zI_eq h1 h2).mp q)] at h; exact h) H locs ls hP hS hl) (fun q => kf (fun z => q ((zI_eq h1 h2).mpr z)) (by rw [if_neg (fun z => q ((zI_eq h1 h2).mpr z))] at h; exact h) H locs ls hP hS hl)

theorem z_lcmp_eq {α : Type} {X Y : Option α} {o : α} {x y off : Int} {tgt : Nat} (hc : z_C κ own cc n lam mc ms) (hd0 : decode cc pc = .ok (.lcmp, 1)) (hd : decode cc (pc + 1) = .ok (.ifCond .eq off, 3)) (ht : ((pc + 1 : Nat) : Int) + off = (tgt : Int)) (h : z_g (z64 x ∧ z64 y) (if x = y then X else Y) = some o) (kt : x = y → X = some o → z_V κ T N a cells slots tgt L S st) (kf : ¬ (x = y) → Y = some o → z_V κ T N a cells slots (pc + 4) L S st) : z_V κ T N a cells slots pc L (.long (zJ y) :: .long (zJ x) :: S) st := by
  obtain ⟨p, l, e, R, s, m, args, below, meth, c, Q, A, D, cA, nL⟩ := κ
  obtain ⟨hx, hb, hml, hn, hown, hts, hlk, hK, hA, hfr, hlo, hce, hsl, hX9, htr⟩ := hc
  intro H locs ls hP hS hl
  obtain ⟨⟨h1, h2⟩, h⟩ := z_g_some h
  refine W.lcmp hx hb hd0 ?_
  have e := z_lgc h1 h2
  exact lv_if_eq hx hb hd ht (fun q => kt (e.2.2.2.2.mp q) (by rw [if_pos (e.2.2.2.2.mp q)] at h; exact h) H locs ls hP hS hl) (fun q => kf (fun z => q (e.2.2.2.2.mpr z)) (by rw [if_neg (fun z => q (e.2.2.2.2.mpr z))] at h; exact h) H locs ls hP hS hl)

theorem z_icmp_ne {α : Type} {X Y : Option α} {o : α} {x y off : Int} {tgt : Nat} (hc : z_C κ own cc n lam mc ms) (hd : decode cc pc = .ok (.if_icmp .ne off, 3)) (ht : (pc : Int) + off = (tgt : Int)) (h : z_g (z32 x ∧ z32 y) (if x = y then X else Y) = some o) (kt : x = y → X = some o → z_V κ T N a cells slots (pc + 3) L S st) (kf : ¬ (x = y) → Y = some o → z_V κ T N a cells slots tgt L S st) : z_V κ T N a cells slots pc L (.int (zI y) :: .int (zI x) :: S) st := by
  obtain ⟨p, l, e, R, s, m, args, below, meth, c, Q, A, D, cA, nL⟩ := κ
  obtain ⟨hx, hb, hml, hn, hown, hts, hlk, hK, hA, hfr, hlo, hce, hsl, hX9, htr⟩ := hc
  intro H locs ls hP hS hl
  obtain ⟨⟨h1, h2⟩, h⟩ := z_g_some h
  exact lv_icmp_ne hx hb hd ht (fun q => kf (fun z => q ((zI_eq h1 h2).mpr z)) (by rw [if_neg (fun z => q ((zI_eq h1 h2).mpr z))] at h; exact h) H locs ls hP hS hl) (fun q => kt ((zI_eq h1 h2).mp q) (by rw [if_pos ((zI_eq h1 h2).mp q)] at h; exact h) H locs ls hP hS hl)

theorem z_if_ne {α : Type} {X Y : Option α} {o : α} {x off : Int} {tgt : Nat} (hc : z_C κ own cc n lam mc ms) (hd : decode cc pc = .ok (.ifCond .ne off, 3)) (ht : (pc : Int) + off = (tgt : Int)) (h : z_g (z32 x) (if x = 0 then X else Y) = some o) (kt : x = 0 → X = some o → z_V κ T N a cells slots (pc + 3) L S st) (kf : ¬ (x = 0) → Y = some o → z_V κ T N a cells slots tgt L S st) : z_V κ T N a cells slots pc L (.int (zI x) :: S) st := by
  obtain ⟨p, l, e, R, s, m, args, below, meth, c, Q, A, D, cA, nL⟩ := κ
  obtain ⟨hx, hb, hml, hn, hown, hts, hlk, hK, hA, hfr, hlo, hce, hsl, hX9, htr⟩ := hc
  intro H locs ls hP hS hl
  obtain ⟨h1, h⟩ := z_g_some h
  have h2 : z32 0 := ⟨by decide, by decide⟩
  exact lv_if_ne hx hb hd ht (fun q => kf (fun z => q ((zI_eq h1 h2).mpr z)) (by rw [if_neg (fun z => q ((zI_eq h1 h2).mpr z))] at h; exact h) H locs ls hP hS hl) (fun q => kt ((zI_eq h1 h2).mp q) (by rw [if_pos ((zI_eq h1 h2).mp q)] at h; exact h) H locs ls hP hS hl)

theorem z_lcmp_ne {α : Type} {X Y : Option α} {o : α} {x y off : Int} {tgt : Nat} (hc : z_C κ own cc n lam mc ms) (hd0 : decode cc pc = .ok (.lcmp, 1)) (hd : decode cc (pc + 1) = .ok (.ifCond .ne off, 3)) (ht : ((pc + 1 : Nat) : Int) + off = (tgt : Int)) (h : z_g (z64 x ∧ z64 y) (if x = y then X else Y) = some o) (kt : x = y → X = some o → z_V κ T N a cells slots (pc + 4) L S st) (kf : ¬ (x = y) → Y = some o → z_V κ T N a cells slots tgt L S st) : z_V κ T N a cells slots pc L (.long (zJ y) :: .long (zJ x) :: S) st := by
  obtain ⟨p, l, e, R, s, m, args, below, meth, c, Q, A, D, cA, nL⟩ := κ
  obtain ⟨hx, hb, hml, hn, hown, hts, hlk, hK, hA, hfr, hlo, hce, hsl, hX9, htr⟩ := hc
  intro H locs ls hP hS hl
  obtain ⟨⟨h1, h2⟩, h⟩ := z_g_some h
  refine W.lcmp hx hb hd0 ?_
  have e := z_lgc h1 h2
  exact lv_if_ne hx hb hd ht (fun q => kf (fun z => q (e.2.2.2.2.mpr z)) (by rw [if_neg (fun z => q (e.2.2.2.2.mpr z))] at h; exact h) H locs ls hP hS hl) (fun q => kt (e.2.2.2.2.mp q) (by rw [if_pos (e.2.2.2.2.mp q)] at h; exact h) H locs ls hP hS hl)

end
