-- MAKING THE WORLD (laid by wip/gen32/zctor.py)
def z_at (b : Nat) : Nat → Nat := fun k => b + k
def z_VB (κ : zK) (T : Nat → z_Ty) (N b cells slots pc : Nat) (L : List (Nat × Value)) (S : List Value) (st : z_St) : Prop := match κ with
  | (p, l, e, R, s, m, args, below, meth, c, Q, A, D, cA, nL) => ∀ (H : Heap) (locs : List Loc) (ls : Array Slot), H.size = b + N → va_P D vwCl (z_ws cA T (z_at b) N st) H → va_S A s.heap H locs → lv_has ls nL L → W p l e R s m args below meth c H locs cells slots Q (F0 m pc ls S)
theorem z_at_inj (b N : Nat) : z_inj (z_at b) N := fun i j _ _ h => by unfold z_at at h; omega
def z_AB (κ : zK) (b N : Nat) : Prop := match κ with
  | (_, _, _, _, s, _, _, _, _, _, _, A, _, _, _) => ∀ k : Nat, k < N → A (b + k)
def z_Tu (T : Nat → z_Ty) (k : Nat) (t : z_Ty) : Nat → z_Ty := fun j => if j = k then t else T j
theorem z_Tu_n {T : Nat → z_Ty} {k j : Nat} {t : z_Ty} (h : j ≠ k) : z_Tu T k t j = T j := if_neg h
theorem z_Tu_s {T : Nat → z_Ty} {k : Nat} {t : z_Ty} : z_Tu T k t k = t := if_pos rfl
/-- the words that the making of the parts needs -/
def z_nst : List (String × Nat × MethodName) := [(RX11, 11, yX1_init), (RX4, 40, yX9_init), (RX4, 41, yX7_init), (RX11, 25, yX2_init), (RX11, 32, yX0_init), (RX11, 39, yX5_init), (RX11, 46, yX8_init), (RX11, 53, yX3_init), (RX11, 60, yX10_init), (RX11, 67, yX6_init)]
def z_Y (U : State) : Prop := (∀ q ∈ z_nst, va_Nw (.methodLinkNest q.1 q.2.1 q.2.2 RX11) U) ∧ (∀ ty : FieldType, ty = .int ∨ ty = .long → va_AOA ty U) ∧ ∀ C : String, C = RX9 ∨ C = RX7 → va_AO C U
theorem va_AOA.moved {ty : FieldType} {u U : State} (hvm : u.vm.Alike U.vm) (h : va_AOA ty u) : va_AOA ty U := by
  obtain ⟨comp, c, k, h1, h2, h3, h4, h5⟩ := arrayOver_specB h
  obtain ⟨k', hk', he⟩ := hvm.2.2 _ _ h3
  have hi : (U.vm.classes.findIdx? fun (x : Class) => match x.kind with | .array component _ => component == comp | _ => false) = some c := by
    refine (va_idx_bare U.vm comp).symm.trans ?_
    (first | rw [hvm.bare_eq] | rw [← hvm.bare_eq])
    exact (va_idx_bare u.vm comp).trans h2
  have hkind : k'.kind = .array comp (.array ty) := by rw [he]; exact h4
  have f1 : U.vm.findClass (FieldType.array ty).toString = some comp := by rw [hvm.findClass]; exact h1
  have f2 : U.vm.findClass ("[" ++ (FieldType.array ty).toString) = some c := by rw [hvm.findClass]; exact h5
  unfold va_AOA Cond.before Cond.holds
  simp only [Cond.value]
  rw [f1, Option.bind_some]
  refine (congrArg (fun o : Option Nat => (o.bind (fun c => (U.vm.classes[c]?).map fun (k : Class) => match k.kind with | .array _ t9 => decide (t9 = FieldType.array ty) && decide (U.vm.findClass ("[" ++ (FieldType.array ty).toString) = some c) | _ => false) == some true)) hi).trans ?_
  simp [hk', hkind, f2]
theorem z_Y.warm {s U : State} (hW : s.WarmedH U.vm) (h : z_Y s) : z_Y U := ⟨fun q hq => va_Nw.warmM hW (h.1 q hq), fun ty ht => (h.2.1 ty ht).moved hW.alike, fun C hC => (h.2.2 C hC).moved hW.alike⟩
def z_YC (κ : zK) : Prop := match κ with
  | (_, _, _, _, s, _, _, _, _, _, _, _, _, _, _) => z_Y s
/-- what a constructor leaves -/
def z_PcB (T : Nat → z_Ty) (N b : Nat) (D : va_G) (cA : Nat → ClassId) (st : z_St) (As : List Value) : Array Value → State → Prop := fun av U => z_Pc T N (z_at b) D cA st As (b + N) av U ∧ z_Y U
def z_MB (l : Launch) (y : MethodName) (cc : ByteArray) (n : Nat) (lam mc ms : Nat) (T : Nat → z_Ty) (N b : Nat) (As : List Value) (st : z_St) (T' : Nat → z_Ty) (N' : Nat) (st' : z_St) : Prop :=
  ∀ (D : va_G) (cA : Nat → ClassId), Met l y (z_w y cc n none) (z_rm lam mc ms) (z_PcB T N b D cA st As) (va_Qv (fun (_ : Unit) => True) (fun _ t => t.heap.size = b + N' ∧ va_P D vwCl (z_ws cA T' (z_at b) N' st') t.heap) (z_A (z_at b) N (b + N))) mc ms (z_A (z_at b) N (b + N))
def z_EB (κ : zK) (mc ms : Nat) (T' : Nat → z_Ty) (N' b : Nat) (st' : z_St) : Prop := match κ with
  | (_, _, _, _, s, _, args, below, meth, _, Q, A, D, cA, _) => meth.sig.returnType = none ∧ meth.name = "<init>" ∧ Q = MQ below (va_Qv (fun (_ : Unit) => True) (fun _ t => t.heap.size = b + N' ∧ va_P D vwCl (z_ws cA T' (z_at b) N' st') t.heap) A) args s mc ms A
theorem z_blindB {T : Nat → z_Ty} {N b : Nat} {D : va_G} {cA : Nat → ClassId} {st : z_St} {As : List Value} : FrameBlind (z_PcB T N b D cA st As) := fun av U g mk q => by
  obtain ⟨q1, y1, y2, y3⟩ := q
  have hal : U.vm.Alike (U.calling g mk av).vm := Vm.Alike.refl U.vm
  refine ⟨z_blind av U g mk q1, fun q hq => ?_, fun ty ht => (y2 ty ht).moved hal, fun C hC => (y3 C hC).moved hal⟩
  have h9 := y1 q hq
  unfold va_Nw at h9 ⊢
  exact va_tabs (A := #[]) rfl rfl h9
section
variable {κ : zK} {own : String} {cc : ByteArray} {n lam mc ms : Nat} {T : Nat → z_Ty} {N b : Nat} {cells slots pc : Nat} {L : List (Nat × Value)} {S : List Value} {st : z_St}
theorem zb_iconst {k : Int} (hc : z_C κ own cc n lam mc ms) (hd : decode cc pc = .ok (.iconst k, 1)) (kk : z_VB κ T N b cells slots (pc + 1) L (.int (zI k) :: S) st) : z_VB κ T N b cells slots pc L S st := by
  obtain ⟨p, l, e, R, s, m, args, below, meth, c, Q, A, D, cA, nL⟩ := κ
  obtain ⟨hx, hb, hml, hn, hown, hts, hlk, hK, hA, hfr, hlo, hce, hsl, hX9, htr⟩ := hc
  intro H locs ls hz hP hS hl
  exact lv_iconst hx hb hd rfl (kk H locs ls hz hP hS hl)
theorem zb_bipush {k : Int} (hc : z_C κ own cc n lam mc ms) (hd : decode cc pc = .ok (.bipush k, 2)) (hv : (Int8.ofInt k).toInt32 = zI k) (kk : z_VB κ T N b cells slots (pc + 2) L (.int (zI k) :: S) st) : z_VB κ T N b cells slots pc L S st := by
  obtain ⟨p, l, e, R, s, m, args, below, meth, c, Q, A, D, cA, nL⟩ := κ
  obtain ⟨hx, hb, hml, hn, hown, hts, hlk, hK, hA, hfr, hlo, hce, hsl, hX9, htr⟩ := hc
  intro H locs ls hz hP hS hl
  exact lv_bipush hx hb hd hv (kk H locs ls hz hP hS hl)
theorem zb_sipush {k : Int} (hc : z_C κ own cc n lam mc ms) (hd : decode cc pc = .ok (.sipush k, 3)) (hv : (Int16.ofInt k).toInt32 = zI k) (kk : z_VB κ T N b cells slots (pc + 3) L (.int (zI k) :: S) st) : z_VB κ T N b cells slots pc L S st := by
  obtain ⟨p, l, e, R, s, m, args, below, meth, c, Q, A, D, cA, nL⟩ := κ
  obtain ⟨hx, hb, hml, hn, hown, hts, hlk, hK, hA, hfr, hlo, hce, hsl, hX9, htr⟩ := hc
  intro H locs ls hz hP hS hl
  exact lv_sipush hx hb hd hv (kk H locs ls hz hP hS hl)
theorem zb_lconst {k : Fin 2} (x : Int) (hc : z_C κ own cc n lam mc ms) (hd : decode cc pc = .ok (.lconst k, 1)) (hv : Int64.ofNat (k : Nat) = zJ x) (kk : z_VB κ T N b cells slots (pc + 1) L (.long (zJ x) :: S) st) : z_VB κ T N b cells slots pc L S st := by
  obtain ⟨p, l, e, R, s, m, args, below, meth, c, Q, A, D, cA, nL⟩ := κ
  obtain ⟨hx, hb, hml, hn, hown, hts, hlk, hK, hA, hfr, hlo, hce, hsl, hX9, htr⟩ := hc
  intro H locs ls hz hP hS hl
  exact lv_lconst hx hb hd hv (kk H locs ls hz hP hS hl)
theorem zb_ldc2 {i : Nat} {v : Int64} (x : Int) (hc : z_C κ own cc n lam mc ms) (hw : Cond.constantLong own i v ∈ z_tbl) (hd : decode cc pc = .ok (.ldc2_w i, 3)) (hv : v = zJ x) (kk : z_VB κ T N b cells slots (pc + 3) L (.long (zJ x) :: S) st) : z_VB κ T N b cells slots pc L S st := by
  obtain ⟨p, l, e, R, s, m, args, below, meth, c, Q, A, D, cA, nL⟩ := κ
  obtain ⟨hx, hb, hml, hn, hown, hts, hlk, hK, hA, hfr, hlo, hce, hsl, hX9, htr⟩ := hc
  intro H locs ls hz hP hS hl
  subst hv
  exact lv_ldc2 hx hb hown (hts _ hw) hd (kk H locs ls hz hP hS hl)

theorem zb_aload_n {k : Fin 4} {i : Nat} {x : Nat} (j : Nat) (hc : z_C κ own cc n lam mc ms) (hd : decode cc pc = .ok (.aload_n k, 1)) (hj : L[j]? = some (i, .ref x)) (hi : (k : Nat) = i) (kk : z_VB κ T N b cells slots (pc + 1) L (.ref x :: S) st) : z_VB κ T N b cells slots pc L S st := by
  obtain ⟨p, l, e, R, s, m, args, below, meth, c, Q, A, D, cA, nL⟩ := κ
  obtain ⟨hx, hb, hml, hn, hown, hts, hlk, hK, hA, hfr, hlo, hce, hsl, hX9, htr⟩ := hc
  intro H locs ls hz hP hS hl
  exact lv_aload_n hx hb hd hi (lv_at hl j hj) (kk H locs ls hz hP hS hl)
theorem zb_aload {i : Nat} {x : Nat} (j : Nat) (hc : z_C κ own cc n lam mc ms) (hd : decode cc pc = .ok (.aload i, 2)) (hj : L[j]? = some (i, .ref x)) (kk : z_VB κ T N b cells slots (pc + 2) L (.ref x :: S) st) : z_VB κ T N b cells slots pc L S st := by
  obtain ⟨p, l, e, R, s, m, args, below, meth, c, Q, A, D, cA, nL⟩ := κ
  obtain ⟨hx, hb, hml, hn, hown, hts, hlk, hK, hA, hfr, hlo, hce, hsl, hX9, htr⟩ := hc
  intro H locs ls hz hP hS hl
  exact lv_aload hx hb hd (lv_at hl j hj) (kk H locs ls hz hP hS hl)

theorem zb_iload_n {k : Fin 4} {i : Nat} {x : Int32} (j : Nat) (hc : z_C κ own cc n lam mc ms) (hd : decode cc pc = .ok (.iload_n k, 1)) (hj : L[j]? = some (i, .int x)) (hi : (k : Nat) = i) (kk : z_VB κ T N b cells slots (pc + 1) L (.int x :: S) st) : z_VB κ T N b cells slots pc L S st := by
  obtain ⟨p, l, e, R, s, m, args, below, meth, c, Q, A, D, cA, nL⟩ := κ
  obtain ⟨hx, hb, hml, hn, hown, hts, hlk, hK, hA, hfr, hlo, hce, hsl, hX9, htr⟩ := hc
  intro H locs ls hz hP hS hl
  exact lv_iload_n hx hb hd hi (lv_at hl j hj) (kk H locs ls hz hP hS hl)
theorem zb_istore_n {k : Fin 4} {i : Nat} {x : Int32} (L' : List (Nat × Value)) (hc : z_C κ own cc n lam mc ms) (hd : decode cc pc = .ok (.istore_n k, 1)) (hi : (k : Nat) = i) (hlt : i < n) (hL : (i, Value.int x) :: L.filter (fun q => !(q.1 == i) && !(q.1 + 1 == i && q.2.category == 2)) = L') (kk : z_VB κ T N b cells slots (pc + 1) L' S st) : z_VB κ T N b cells slots pc L (.int x :: S) st := by
  obtain ⟨p, l, e, R, s, m, args, below, meth, c, Q, A, D, cA, nL⟩ := κ
  obtain ⟨hx, hb, hml, hn, hown, hts, hlk, hK, hA, hfr, hlo, hce, hsl, hX9, htr⟩ := hc
  intro H locs ls hz hP hS hl
  exact lv_istore_n hx hb hd hi hl (by rw [hn]; exact hlt) hL (fun ls' hl' => kk H locs ls' hz hP hS hl')
theorem zb_astore_n {k : Fin 4} {i : Nat} {x : Nat} (L' : List (Nat × Value)) (hc : z_C κ own cc n lam mc ms) (hd : decode cc pc = .ok (.astore_n k, 1)) (hi : (k : Nat) = i) (hlt : i < n) (hL : (i, Value.ref x) :: L.filter (fun q => !(q.1 == i) && !(q.1 + 1 == i && q.2.category == 2)) = L') (kk : z_VB κ T N b cells slots (pc + 1) L' S st) : z_VB κ T N b cells slots pc L (.ref x :: S) st := by
  obtain ⟨p, l, e, R, s, m, args, below, meth, c, Q, A, D, cA, nL⟩ := κ
  obtain ⟨hx, hb, hml, hn, hown, hts, hlk, hK, hA, hfr, hlo, hce, hsl, hX9, htr⟩ := hc
  intro H locs ls hz hP hS hl
  exact lv_astore_n hx hb hd hi hl (by rw [hn]; exact hlt) hL (fun ls' hl' => kk H locs ls' hz hP hS hl')
theorem zb_iinc {i : Nat} {k x : Int} (L' : List (Nat × Value)) (j : Nat) (hc : z_C κ own cc n lam mc ms) (hd : decode cc pc = .ok (.iinc i k, 3)) (hj : L[j]? = some (i, .int (zI x))) (hlt : i < n) (hL : (i, Value.int (zI (x + k))) :: L.filter (fun q => !(q.1 == i) && !(q.1 + 1 == i && q.2.category == 2)) = L') (kk : z_VB κ T N b cells slots (pc + 3) L' S st) : z_VB κ T N b cells slots pc L S st := by
  obtain ⟨p, l, e, R, s, m, args, below, meth, c, Q, A, D, cA, nL⟩ := κ
  obtain ⟨hx, hb, hml, hn, hown, hts, hlk, hK, hA, hfr, hlo, hce, hsl, hX9, htr⟩ := hc
  intro H locs ls hz hP hS hl
  exact lv_iinc hx hb hd hl hj (show zI x + zI k = zI (x + k) from zI_add x k) (by rw [hn]; exact hlt) hL (fun ls' hl' => kk H locs ls' hz hP hS hl')
theorem zb_dup {v : Value} (hc : z_C κ own cc n lam mc ms) (hd : decode cc pc = .ok (.dup, 1)) (hv : v.category = 1) (kk : z_VB κ T N b cells slots (pc + 1) L (v :: v :: S) st) : z_VB κ T N b cells slots pc L (v :: S) st := by
  obtain ⟨p, l, e, R, s, m, args, below, meth, c, Q, A, D, cA, nL⟩ := κ
  obtain ⟨hx, hb, hml, hn, hown, hts, hlk, hK, hA, hfr, hlo, hce, hsl, hX9, htr⟩ := hc
  intro H locs ls hz hP hS hl
  exact lv_dup hx hb hd hv (kk H locs ls hz hP hS hl)
theorem zb_goto {off : Int} {tgt : Nat} (hc : z_C κ own cc n lam mc ms) (hd : decode cc pc = .ok (.goto off, 3)) (ht : (pc : Int) + off = (tgt : Int)) (kk : z_VB κ T N b cells slots tgt L S st) : z_VB κ T N b cells slots pc L S st := by
  obtain ⟨p, l, e, R, s, m, args, below, meth, c, Q, A, D, cA, nL⟩ := κ
  obtain ⟨hx, hb, hml, hn, hown, hts, hlk, hK, hA, hfr, hlo, hce, hsl, hX9, htr⟩ := hc
  intro H locs ls hz hP hS hl
  exact lv_goto hx hb hd ht (kk H locs ls hz hP hS hl)

theorem zb_sub (L' : List (Nat × Value)) (ks : List Nat) (hL : lv_pick L ks = L') (kk : z_VB κ T N b cells slots pc L' S st) : z_VB κ T N b cells slots pc L S st := by
  obtain ⟨p, l, e, R, s, m, args, below, meth, c, Q, A, D, cA, nL⟩ := κ
  intro H locs ls hz hP hS hl
  exact kk H locs ls hz hP hS (lv_sub hl ks hL)
theorem zb_istore {i : Nat} {x : Int32} (L' : List (Nat × Value)) (hc : z_C κ own cc n lam mc ms) (hd : decode cc pc = .ok (.istore i, 2)) (hlt : i < n) (hL : (i, Value.int x) :: L.filter (fun q => !(q.1 == i) && !(q.1 + 1 == i && q.2.category == 2)) = L') (kk : z_VB κ T N b cells slots (pc + 2) L' S st) : z_VB κ T N b cells slots pc L (.int x :: S) st := by
  obtain ⟨p, l, e, R, s, m, args, below, meth, c, Q, A, D, cA, nL⟩ := κ
  obtain ⟨hx, hb, hml, hn, hown, hts, hlk, hK, hA, hfr, hlo, hce, hsl, hX9, htr⟩ := hc
  intro H locs ls hz hP hS hl
  exact lv_istore hx hb hd hl (by rw [hn]; exact hlt) hL (fun ls' hl' => kk H locs ls' hz hP hS hl')

theorem zb_wide {cells' slots' : Nat} (h1 : cells ≤ cells') (h2 : slots ≤ slots') (kk : z_VB κ T N b cells' slots' pc L S st) : z_VB κ T N b cells slots pc L S st := by
  obtain ⟨p, l, e, R, s, m, args, below, meth, c, Q, A, D, cA, nL⟩ := κ
  intro H locs ls hz hP hS hl
  exact W.widen h1 h2 (kk H locs ls hz hP hS hl)
theorem zb_geF {x y off : Int} (hc : z_C κ own cc n lam mc ms) (hd : decode cc pc = .ok (.if_icmp .ge off, 3)) (h : z32 x ∧ z32 y ∧ x < y) (tgt : Nat) (ht : (pc : Int) + off = (tgt : Int)) (kk : z_VB κ T N b cells slots (pc + 3) L S st) : z_VB κ T N b cells slots pc L (.int (zI y) :: .int (zI x) :: S) st := by
  obtain ⟨p, l, e, R, s, m, args, below, meth, c, Q, A, D, cA, nL⟩ := κ
  obtain ⟨hx, hb, hml, hn, hown, hts, hlk, hK, hA, hfr, hlo, hce, hsl, hX9, htr⟩ := hc
  intro H locs ls hz hP hS hl
  exact lv_icmp_ge hx hb hd ht (fun q => by have := (zI_le h.2.1 h.1).mp q; omega) (fun _ => kk H locs ls hz hP hS hl)
theorem zb_geT {x y off : Int} (hc : z_C κ own cc n lam mc ms) (hd : decode cc pc = .ok (.if_icmp .ge off, 3)) (h : z32 x ∧ z32 y ∧ y ≤ x) (tgt : Nat) (ht : (pc : Int) + off = (tgt : Int)) (kk : z_VB κ T N b cells slots tgt L S st) : z_VB κ T N b cells slots pc L (.int (zI y) :: .int (zI x) :: S) st := by
  obtain ⟨p, l, e, R, s, m, args, below, meth, c, Q, A, D, cA, nL⟩ := κ
  obtain ⟨hx, hb, hml, hn, hown, hts, hlk, hK, hA, hfr, hlo, hce, hsl, hX9, htr⟩ := hc
  intro H locs ls hz hP hS hl
  exact lv_icmp_ge hx hb hd ht (fun _ => kk H locs ls hz hP hS hl) (fun q => absurd ((zI_le h.2.1 h.1).mpr h.2.2) q)
theorem zb_objInit {idx : Nat} {k : Nat} (hc : z_C κ own cc n lam mc ms) (hw : Cond.methodLink own idx Lib.objectInit ∈ z_tbl) (hi : Cond.instanceMethod Lib.objectInit ∈ z_tbl) (hcd : Cond.code Lib.objectInit ⟨#[0xb1]⟩ 1 none ∈ z_tbl) (hlam : 1 ≤ lam) (hW : (S.map fun v => v.category).sum ≤ 8) (hd : decode cc pc = .ok (.invokespecial idx, 3)) (kk : z_VB κ T N b cells slots (pc + 3) L S st) : z_VB κ T N b cells slots pc L (.ref k :: S) st := by
  obtain ⟨p, l, e, R, s, m, args, below, meth, c, Q, A, D, cA, nL⟩ := κ
  obtain ⟨hx, hb, hml, hn, hown, hts, hlk, hK, hA, hfr, hlo, hce, hsl, hX9, htr⟩ := hc
  intro H locs ls hz hP hS hl
  refine W.objInit hx hb hown (hts _ hw) (hts _ hi) (hts _ hcd) rfl (by show ls.size = _; rw [hl.1, hml]) rfl hd (by omega) (by show 2 * 0 + _ + 12 ≤ _; omega) ?_
  exact kk H locs ls hz hP hS hl
theorem zb_get {ci j k idx : Nat} {ks : List (Nat × Nat)} {d k' : Nat} (hc : z_C κ own cc n lam mc ms) (hf : z_FL own idx ci j) (hT : T k = .inl (ci, ks)) (hk : k < N) (hk' : k + d = k') (hq : ks[j]? = some (4, d)) (hd : decode cc pc = .ok (.getfield idx, 3)) (kk : z_VB κ T N b cells slots (pc + 3) L (.ref (b + k') :: S) st) : z_VB κ T N b cells slots pc L (.ref (b + k) :: S) st := by
  obtain ⟨p, l, e, R, s, m, args, below, meth, c, Q, A, D, cA, nL⟩ := κ
  obtain ⟨hx, hb, hml, hn, hown, hts, hlk, hK, hA, hfr, hlo, hce, hsl, hX9, htr⟩ := hc
  intro H locs ls hz hP hS hl
  subst hk'
  obtain ⟨⟨C, TT, NN⟩, f1, f2, f3, f4, f5⟩ := hf
  have hw := z_ws_get (cA := cA) (T := T) (a := z_at b) (st := st) hk
  rw [hT] at hw
  exact va_get (D := D) (ci := ci) (C := C) (T := TT) (N := NN) hx hb hts f3 hown hK hP k hw f1 j f2 (hts _ f4) (fun x h => by rw [f5] at h; exact h) (z_fs_get hq) hd (kk H locs ls hz hP hS hl)
/-- a field is written that may be final: T becomes T' at k, st becomes st' there -/
theorem zb_put {ci j k idx : Nat} {ks ks' : List (Nat × Nat)} {ty : FieldType} {v : Value} {st' : z_St} (hc : z_C κ own cc n lam mc ms) (hab : z_AB κ b N) {mcE msE N' : Nat} {T9 : Nat → z_Ty} {st9 : z_St} (he : z_EB κ mcE msE T9 N' b st9) (hf : z_FL own idx ci j) (hfc : z_FC ci) (hcl : ∃ q : vw_C, vwCl[ci]? = some q ∧ q.1 = own ∧ parseFieldDescriptor (q.2.1 j).2.2.1 = some ty) (hT : T k = .inl (ci, ks)) (hk : k < N) (hj : j < ks.length) (hnv : narrow ty v = v) (hfv : fits ty v = true) (hset : (z_fs (z_at b) k ks (st k)).set j v = z_fs (z_at b) k ks' (st' k)) (hst : ∀ k' : Nat, k' ≠ k → st' k' = st k') (hd : decode cc pc = .ok (.putfield idx, 3)) (kk : z_VB κ (z_Tu T k (.inl (ci, ks'))) N b cells slots (pc + 3) L S st') : z_VB κ T N b cells slots pc L (v :: .ref (b + k) :: S) st := by
  obtain ⟨p, l, e, R, s, m, args, below, meth, c, Q, A, D, cA, nL⟩ := κ
  obtain ⟨hx, hb, hml, hn, hown, hts, hlk, hK, hA, hfr, hlo, hce, hsl, hX9, htr⟩ := hc
  intro H locs ls hz hP hS hl
  obtain ⟨⟨C, TT, NN⟩, f1, f2, f3, f4, f5⟩ := hf
  obtain ⟨q1, ty0, g1, g2, g3⟩ := hfc
  obtain ⟨q2, i1, i2, i3⟩ := hcl
  cases Option.some.inj (f1.symm.trans g1)
  cases Option.some.inj (f1.symm.trans i1)
  obtain ⟨-, hin2, -⟩ := he
  have hw := z_ws_get (cA := cA) (T := T) (a := z_at b) (st := st) hk
  rw [hT] at hw
  have hD : va_D A (z_ws cA T (z_at b) N st) := (z_D (sz := s.heap.size) (z_at_inj b N)).weaken (fun k9 q9 h9 _ => by obtain ⟨h1, rfl⟩ := z_ws_inv h9; exact hab _ h1)
  have hap := va_apart (own := own) hts f3 ty0 g2 g3 hK f1
  obtain ⟨r, h1, cell, q1, q2, q3, q4⟩ := hP k _ hw
  have hr : r = (C, TT, NN) := Option.some.inj (h1.symm.trans f1)
  subst hr
  obtain ⟨hS9, hfc9, kC, hkC, hkind⟩ := hK.1 ci _ f1
  obtain ⟨cf, kf, fi, f, hi, hsl9⟩ := hS9 j f2
  have hlay := u_lays hts f3 f2
  have hst9 := (u_facts hfc9 hkC hlay hi).1
  have hlen : j < (z_fs (z_at b) k ks (st k)).length := by rw [z_fs_len]; exact hj
  have fin : ∀ H' : Heap, H'[b + k]? = some (cell.setSlot f.slot v) → H'.size = H.size → (∀ q, q ≠ b + k → H'[q]? = H[q]?) → W p l e R s m args below meth c H' (locs ++ [⟨b + k, f.slot⟩]) cells slots Q (F0 m (pc + 3) ls S) := fun H' e1 e2 e3 => by
    rw [hsl9] at e1 ⊢
    have hP1 := hP.set hD hw (e := .inr (ci, (z_fs (z_at b) k ks (st k)).set j v)) ⟨_, f1, t_OB.to (V := updV (vp_V (z_fs (z_at b) k ks (st k))) j v) ⟨_, e1, q2, q3, t_set q4 hap f2 v⟩ (fun j' _ => vp_updV_set hlen v j')⟩ e3
    have hE : (z_ws cA T (z_at b) N st).set k (z_at b k, .inr (ci, (z_fs (z_at b) k ks (st k)).set j v)) = z_ws cA (z_Tu T k (.inl (ci, ks'))) (z_at b) N st' := by
      apply List.ext_getElem?
      intro i
      by_cases hi9 : i < N
      · rw [z_ws_get hi9]
        by_cases e9 : i = k
        · subst e9
          rw [List.getElem?_set_self (by rw [z_ws_len]; exact hi9), hset, z_Tu_s]
          rfl
        · rw [List.getElem?_set_ne (Ne.symm e9), z_ws_get hi9, hst i e9, z_Tu_n e9]
      · rw [List.getElem?_eq_none (by rw [List.length_set, z_ws_len]; omega), List.getElem?_eq_none (by rw [z_ws_len]; omega)]
    have hP2 : va_P D vwCl ((z_ws cA T (z_at b) N st).set k (z_at b k, .inr (ci, (z_fs (z_at b) k ks (st k)).set j v))) H' := hP1
    rw [hE] at hP2
    exact kk H' _ ls (by rw [e2]; exact hz) hP2 (hS.put e2 e3 (hab k hk)) hl
  rcases hlay with hl9 | hl9
  · have h6 := u_store hfc9 hkC hkind hl9 hi i3 hnv hfv
    exact W.putK hx hb (f := f) ⟨hown, hts _ f4, ⟨_, _, _, by rw [f5] at hi; exact hi⟩, hst9⟩ (by rw [q2]; exact h6) q1 q3 (by rw [hsl9]; exact k2_hasslot (q4 j f2)) rfl rfl hd fin
  · have hcf : m.cls = cf := by
      obtain ⟨_, _, c', _, _, _, -, -, hf', -, -, -, hown2, -⟩ := Cond.laysFinal_spec hl9
      have e1 : c' = cf := by have := hi.symm.trans hf'; simp at this; exact this.1.symm
      rw [f5, i2] at hown2
      rw [← e1]; exact Option.some.inj (hown.symm.trans hown2)
    have h6 := u_fits hfc9 hkC hkind (Or.inr hl9) hi i3 hnv hfv
    exact W.putFinK hx hb hown (hts _ f4) (by rw [f5] at hi; exact hi) hst9 hcf hin2 (by rw [q2]; exact h6) q1 q3 (by rw [hsl9]; exact k2_hasslot (q4 j f2)) rfl rfl hd fin
theorem zb_putI {ci j k idx : Nat} {ks : List (Nat × Nat)} {x kI jI : Int} (hc : z_C κ own cc n lam mc ms) (hab : z_AB κ b N) {mcE msE N' : Nat} {T9 : Nat → z_Ty} {st9 : z_St} (he : z_EB κ mcE msE T9 N' b st9) (hf : z_FL own idx ci j) (hfc : z_FC ci) (hcl : ∃ q : vw_C, vwCl[ci]? = some q ∧ q.1 = own ∧ parseFieldDescriptor (q.2.1 j).2.2.1 = some .int) (hT : T k = .inl (ci, ks)) (hk : k < N) (hkI : (k : Int) = kI) (hjI : (j : Int) = jI) (hq : ks[j]? = some (0, 0)) (hd : decode cc pc = .ok (.putfield idx, 3)) (kk : z_VB κ T N b cells slots (pc + 3) L S (z_up st kI jI x)) : z_VB κ T N b cells slots pc L (.int (zI x) :: .ref (b + k) :: S) st := by
  subst hkI hjI
  refine zb_put hc hab he hf hfc hcl hT hk (List.getElem?_eq_some_iff.mp hq).1 rfl rfl (z_fs_set (a := z_at b) (f' := z_up st k j x k) hq (by show _ = Value.int _; rw [z_up_at]) (fun i hi => z_up_n (by omega))) (fun k' hk' => z_up_ne rfl hk') hd ?_
  rw [show z_Tu T k (.inl (ci, ks)) = T from funext fun i => by unfold z_Tu; split <;> simp_all]
  exact kk
theorem zb_putJ {ci j k idx : Nat} {ks : List (Nat × Nat)} {x kI jI : Int} (hc : z_C κ own cc n lam mc ms) (hab : z_AB κ b N) {mcE msE N' : Nat} {T9 : Nat → z_Ty} {st9 : z_St} (he : z_EB κ mcE msE T9 N' b st9) (hf : z_FL own idx ci j) (hfc : z_FC ci) (hcl : ∃ q : vw_C, vwCl[ci]? = some q ∧ q.1 = own ∧ parseFieldDescriptor (q.2.1 j).2.2.1 = some .long) (hT : T k = .inl (ci, ks)) (hk : k < N) (hkI : (k : Int) = kI) (hjI : (j : Int) = jI) (hq : ks[j]? = some (1, 0)) (hd : decode cc pc = .ok (.putfield idx, 3)) (kk : z_VB κ T N b cells slots (pc + 3) L S (z_up st kI jI x)) : z_VB κ T N b cells slots pc L (.long (zJ x) :: .ref (b + k) :: S) st := by
  subst hkI hjI
  refine zb_put hc hab he hf hfc hcl hT hk (List.getElem?_eq_some_iff.mp hq).1 rfl rfl (z_fs_set (a := z_at b) (f' := z_up st k j x k) hq (by show _ = Value.long _; rw [z_up_at]) (fun i hi => z_up_n (by omega))) (fun k' hk' => z_up_ne rfl hk') hd ?_
  rw [show z_Tu T k (.inl (ci, ks)) = T from funext fun i => by unfold z_Tu; split <;> simp_all]
  exact kk
theorem zb_putZ {ci j k idx : Nat} {ks : List (Nat × Nat)} {kI jI : Int} (hc : z_C κ own cc n lam mc ms) (hab : z_AB κ b N) {mcE msE N' : Nat} {T9 : Nat → z_Ty} {st9 : z_St} (he : z_EB κ mcE msE T9 N' b st9) (hf : z_FL own idx ci j) (hfc : z_FC ci) (hcl : ∃ q : vw_C, vwCl[ci]? = some q ∧ q.1 = own ∧ parseFieldDescriptor (q.2.1 j).2.2.1 = some .boolean) (hT : T k = .inl (ci, ks)) (hk : k < N) (hkI : (k : Int) = kI) (hjI : (j : Int) = jI) (hq : ks[j]? = some (2, 0)) (hd : decode cc pc = .ok (.putfield idx, 3)) (kk : z_VB κ T N b cells slots (pc + 3) L S (z_up st kI jI 0)) : z_VB κ T N b cells slots pc L (.int (zI 0) :: .ref (b + k) :: S) st := by
  subst hkI hjI
  refine zb_put hc hab he hf hfc hcl hT hk (List.getElem?_eq_some_iff.mp hq).1 (z_bool (Or.inl rfl)).1 (z_bool (Or.inl rfl)).2.1 (z_fs_set (a := z_at b) (f' := z_up st k j 0 k) hq (by show _ = Value.int _; rw [z_up_at]) (fun i hi => z_up_n (by omega))) (fun k' hk' => z_up_ne rfl hk') hd ?_
  rw [show z_Tu T k (.inl (ci, ks)) = T from funext fun i => by unfold z_Tu; split <;> simp_all]
  exact kk
theorem zb_putR {ci j k idx k2 d : Nat} {ks : List (Nat × Nat)} {ty : FieldType} (hc : z_C κ own cc n lam mc ms) (hab : z_AB κ b N) {mcE msE N' : Nat} {T9 : Nat → z_Ty} {st9 : z_St} (he : z_EB κ mcE msE T9 N' b st9) (hf : z_FL own idx ci j) (hfc : z_FC ci) (hcl : ∃ q : vw_C, vwCl[ci]? = some q ∧ q.1 = own ∧ parseFieldDescriptor (q.2.1 j).2.2.1 = some ty) (hT : T k = .inl (ci, ks)) (hk : k < N) (hd2 : k + d = k2) (hj : j < ks.length) (hty : ty.isReference = true) (hd : decode cc pc = .ok (.putfield idx, 3)) (kk : z_VB κ (z_Tu T k (.inl (ci, ks.set j (4, d)))) N b cells slots (pc + 3) L S st) : z_VB κ T N b cells slots pc L (.ref (b + k2) :: .ref (b + k) :: S) st := by
  subst hd2
  refine zb_put hc hab he hf hfc hcl hT hk hj (by cases ty <;> first | rfl | cases hty) (by cases ty <;> first | rfl | cases hty) ?_ (fun _ _ => rfl) hd kk
  apply List.ext_getElem?
  intro i
  by_cases hi : i < ks.length
  · by_cases e : i = j
    · subst e
      rw [List.getElem?_set_self (by rw [z_fs_len]; exact hi), z_fs_get (q := (4, d)) (by rw [List.getElem?_set_self hi])]
      show some (Value.ref (b + (k + d))) = some (Value.ref (b + (k + d)))
      rfl
    · obtain ⟨q', hq'⟩ : ∃ q', ks[i]? = some q' := ⟨ks[i], List.getElem?_eq_getElem hi⟩
      rw [List.getElem?_set_ne (Ne.symm e), z_fs_get hq', z_fs_get (by rw [List.getElem?_set_ne (Ne.symm e)]; exact hq')]
  · rw [List.getElem?_eq_none (by rw [List.length_set, z_fs_len]; omega), List.getElem?_eq_none (by rw [z_fs_len, List.length_set]; omega)]
theorem zb_putV {ci j k idx k2 : Nat} {ks : List (Nat × Nat)} {ty : FieldType} {kI jI k2I : Int} (hc : z_C κ own cc n lam mc ms) (hab : z_AB κ b N) {mcE msE N' : Nat} {T9 : Nat → z_Ty} {st9 : z_St} (he : z_EB κ mcE msE T9 N' b st9) (hf : z_FL own idx ci j) (hfc : z_FC ci) (hcl : ∃ q : vw_C, vwCl[ci]? = some q ∧ q.1 = own ∧ parseFieldDescriptor (q.2.1 j).2.2.1 = some ty) (hT : T k = .inl (ci, ks)) (hk : k < N) (hkI : (k : Int) = kI) (hjI : (j : Int) = jI) (hk2 : (k2 : Int) = k2I) (hj : j < ks.length) (hty : ty.isReference = true) (hd : decode cc pc = .ok (.putfield idx, 3)) (kk : z_VB κ (z_Tu T k (.inl (ci, ks.set j (3, 0)))) N b cells slots (pc + 3) L S (z_up st kI jI k2I)) : z_VB κ T N b cells slots pc L (.ref (b + k2) :: .ref (b + k) :: S) st := by
  subst hkI hjI hk2
  refine zb_put hc hab he hf hfc hcl hT hk hj (by cases ty <;> first | rfl | cases hty) (by cases ty <;> first | rfl | cases hty) ?_ (fun k' hk' => z_up_ne rfl hk') hd kk
  apply List.ext_getElem?
  intro i
  by_cases hi : i < ks.length
  · by_cases e : i = j
    · subst e
      rw [List.getElem?_set_self (by rw [z_fs_len]; exact hi), z_fs_get (q := (3, 0)) (by rw [List.getElem?_set_self hi])]
      show some (Value.ref (b + k2)) = some (va_rf (if z_up st k i k2 k i < 0 then none else some (z_at b (z_up st k i k2 k i).toNat)))
      rw [z_up_at, if_neg (by omega), Int.toNat_natCast]
      rfl
    · obtain ⟨q', hq'⟩ : ∃ q', ks[i]? = some q' := ⟨ks[i], List.getElem?_eq_getElem hi⟩
      rw [List.getElem?_set_ne (Ne.symm e), z_fs_get hq', z_fs_get (by rw [List.getElem?_set_ne (Ne.symm e)]; exact hq'), z_up_n (by omega)]
  · rw [List.getElem?_eq_none (by rw [List.length_set, z_fs_len]; omega), List.getElem?_eq_none (by rw [z_fs_len, List.length_set]; omega)]
theorem z_ws_succ {cA : Nat → ClassId} {a : Nat → Nat} : z_ws cA T a (N + 1) st = z_ws cA T a N st ++ [(a N, z_ent a cA (T N) N (st N))] := by
  unfold z_ws
  rw [List.range_succ, List.map_append]
  rfl
theorem zb_AB1 (hc : z_C κ own cc n lam mc ms) (h : z_AB κ b N) (hg : match κ with | (_, _, _, _, s, _, _, _, _, _, _, _, _, _, _) => s.heap.size ≤ b + N) : z_AB κ b (N + 1) := by
  obtain ⟨p, l, e, R, s, m, args, below, meth, c, Q, A, D, cA, nL⟩ := κ
  obtain ⟨hx, hb, hml, hn, hown, hts, hlk, hK, hA, hfr, hlo, hce, hsl, hX9, htr⟩ := hc
  intro k hk
  by_cases e : k = N
  · subst e; exact hA _ hg
  · exact h k (by omega)
theorem zb_new {ci idx NN : Nat} {ks : List (Nat × Nat)} (hc : z_C κ own cc n lam mc ms) (hst : ∀ y : Int, st N y = 0) (hT : T N = .inl (ci, ks)) (hcl : ∃ q : vw_C, vwCl[ci]? = some q ∧ q.2.2 = NN ∧ Cond.classLink own idx q.1 ∈ z_tbl ∧ Cond.instantiable q.1 NN ∈ z_tbl ∧ Cond.initialized q.1 ∈ z_tbl ∧ (∀ w ∈ u_ws q.1 q.2.1 q.2.2, w ∈ z_tbl) ∧ ∃ ty : Nat → FieldType, (∀ k, k < q.2.2 → parseFieldDescriptor (q.2.1 k).2.2.1 = some (ty k)) ∧ ∀ j, j < q.2.2 → defaultValue (ty j) = vp_V (z_fs (z_at 0) 0 ks (fun _ => 0)) j) (hks : ∀ j, z_fs (z_at 0) 0 ks (fun _ => 0) = z_fs (z_at b) j ks (fun _ => 0)) (hcm : cells + 1 ≤ mc) (hsm : slots + NN ≤ ms) (hd : decode cc pc = .ok (.new idx, 3)) (kk : z_VB κ T (N + 1) b (cells + 1) (slots + NN) (pc + 3) L (.ref (b + N) :: S) st) : z_VB κ T N b cells slots pc L S st := by
  obtain ⟨p, l, e, R, s, m, args, below, meth, c, Q, A, D, cA, nL⟩ := κ
  obtain ⟨hx, hb, hml, hn, hown, hts, hlk, hK, hA, hfr, hlo, hce, hsl, hX9, htr⟩ := hc
  intro H locs ls hz hP hS hl
  obtain ⟨⟨C, TT, NN9⟩, g1, rfl, g3, g4, g5, g6, ty, g7, g8⟩ := hcl
  have hKn := hK.1 ci _ g1
  refine W.newcK hx hb hown (hts _ g3) (hts _ g4) (hts _ g5) rfl hd (by omega) (by omega) hKn.2.1 rfl fun H1 kC hkC e1 z1 o1 => ?_
  rw [hz] at e1 z1 o1 ⊢
  refine kk H1 locs ls (by rw [z1]; omega) ?_ ⟨Nat.le_trans hS.1 (by omega), fun x h1 h2 => (o1 x (by have := hS.1; omega)).trans (hS.2.1 x h1 h2), hS.2.2⟩ hl
  rw [z_ws_succ]
  refine (hP.kept (fun k x hx9 => o1 x.1 (by have := (hP k x hx9).lt; omega))).app (fun k x hx9 => ?_)
  have hz9 : k < 1 := (List.getElem?_eq_some_iff.mp hx9).1
  rw [show k = 0 by omega] at hx9
  cases hx9
  rw [hT, show st N = fun _ => 0 from funext hst]
  show va_at D vwCl (b + N, .inr (ci, z_fs (z_at b) N ks fun _ => 0)) H1
  rw [← hks N]
  exact ⟨_, g1, (u_born ty hts g6 hKn hkC e1 g7).to g8⟩

theorem zb_newI {NN : Nat} {x : Int} (hc : z_C κ own cc n lam mc ms) (hst : ∀ y : Int, st N y = 0) (hT : T N = .inr (0, 0, NN, 0, 0)) (hw : Cond.arrayClass .int ∈ z_tbl) (hx0 : z32 x) (hx9 : (NN : Int) = x) (hbt : NN ≤ 10000) (hcm : cells + 1 ≤ mc) (hsm : slots + NN ≤ ms) (hd : decode cc pc = .ok (.newarray .int, 2)) (kk : z_VB κ T (N + 1) b (cells + 1) (slots + NN) (pc + 2) L (.ref (b + N) :: S) st) : z_VB κ T N b cells slots pc L (.int (zI x) :: S) st := by
  obtain ⟨p, l, e, R, s, m, args, below, meth, c, Q, A, D, cA, nL⟩ := κ
  obtain ⟨hx, hb, hml, hn, hown, hts, hlk, hK, hA, hfr, hlo, hce, hsl, hX9, htr⟩ := hc
  intro H locs ls hz hP hS hl
  subst hx9
  have hcl : (zI (NN : Int)).toNatClampNeg = NN := by rw [zI_cl (by omega) (by omega)]; exact Int.toNat_natCast NN
  have hbt9 : NN * componentBytes (newarray.typeOf .int) ≤ 536870912 := Nat.le_trans (Nat.mul_le_mul hbt (by decide : componentBytes (newarray.typeOf .int) ≤ 8)) (by decide)
  refine va_newaK (atype := .int) hx hb (hts _ hw) rfl hd rfl (fun q => by have := (zI_lt hx0 (y := 0) ⟨by decide, by decide⟩).mp q; omega) hcl hbt9 (by omega) (by omega) rfl fun H1 cA9 e1 z1 o1 hAr hNm => ?_
  have hcA : cA9 = cA 0 := by
    have h2 := (hK.2 0 _ rfl).2
    exact Option.some.inj (hNm.symm.trans h2)
  subst hcA
  rw [hz] at e1 z1 o1 ⊢
  refine kk H1 locs ls (by rw [z1]; omega) ?_ ⟨Nat.le_trans hS.1 (by omega), fun x h1 h2 => (o1 x (by have := hS.1; omega)).trans (hS.2.1 x h1 h2), hS.2.2⟩ hl
  rw [z_ws_succ]
  refine (hP.kept (fun k x hx9 => o1 x.1 (by have := (hP k x hx9).lt; omega))).app (fun k x hx9 => ?_)
  have hz9 : k < 1 := (List.getElem?_eq_some_iff.mp hx9).1
  rw [show k = 0 by omega] at hx9
  cases hx9
  rw [hT, show st N = fun _ => 0 from funext hst]
  exact e1

theorem zb_newJ {NN : Nat} {x : Int} (hc : z_C κ own cc n lam mc ms) (hst : ∀ y : Int, st N y = 0) (hT : T N = .inr (1, 1, NN, 0, 0)) (hw : Cond.arrayClass .long ∈ z_tbl) (hx0 : z32 x) (hx9 : (NN : Int) = x) (hbt : NN ≤ 10000) (hcm : cells + 1 ≤ mc) (hsm : slots + NN ≤ ms) (hd : decode cc pc = .ok (.newarray .long, 2)) (kk : z_VB κ T (N + 1) b (cells + 1) (slots + NN) (pc + 2) L (.ref (b + N) :: S) st) : z_VB κ T N b cells slots pc L (.int (zI x) :: S) st := by
  obtain ⟨p, l, e, R, s, m, args, below, meth, c, Q, A, D, cA, nL⟩ := κ
  obtain ⟨hx, hb, hml, hn, hown, hts, hlk, hK, hA, hfr, hlo, hce, hsl, hX9, htr⟩ := hc
  intro H locs ls hz hP hS hl
  subst hx9
  have hcl : (zI (NN : Int)).toNatClampNeg = NN := by rw [zI_cl (by omega) (by omega)]; exact Int.toNat_natCast NN
  have hbt9 : NN * componentBytes (newarray.typeOf .long) ≤ 536870912 := Nat.le_trans (Nat.mul_le_mul hbt (by decide : componentBytes (newarray.typeOf .long) ≤ 8)) (by decide)
  refine va_newaK (atype := .long) hx hb (hts _ hw) rfl hd rfl (fun q => by have := (zI_lt hx0 (y := 0) ⟨by decide, by decide⟩).mp q; omega) hcl hbt9 (by omega) (by omega) rfl fun H1 cA9 e1 z1 o1 hAr hNm => ?_
  have hcA : cA9 = cA 1 := by
    have h2 := (hK.2 1 _ rfl).2
    exact Option.some.inj (hNm.symm.trans h2)
  subst hcA
  rw [hz] at e1 z1 o1 ⊢
  refine kk H1 locs ls (by rw [z1]; omega) ?_ ⟨Nat.le_trans hS.1 (by omega), fun x h1 h2 => (o1 x (by have := hS.1; omega)).trans (hS.2.1 x h1 h2), hS.2.2⟩ hl
  rw [z_ws_succ]
  refine (hP.kept (fun k x hx9 => o1 x.1 (by have := (hP k x hx9).lt; omega))).app (fun k x hx9 => ?_)
  have hz9 : k < 1 := (List.getElem?_eq_some_iff.mp hx9).1
  rw [show k = 0 by omega] at hx9
  cases hx9
  rw [hT, show st N = fun _ => 0 from funext hst]
  exact e1

theorem zb_newZ {NN : Nat} {x : Int} (hc : z_C κ own cc n lam mc ms) (hst : ∀ y : Int, st N y = 0) (hT : T N = .inr (2, 2, NN, 0, 0)) (hw : Cond.arrayClass .boolean ∈ z_tbl) (hx0 : z32 x) (hx9 : (NN : Int) = x) (hbt : NN ≤ 10000) (hcm : cells + 1 ≤ mc) (hsm : slots + NN ≤ ms) (hd : decode cc pc = .ok (.newarray .boolean, 2)) (kk : z_VB κ T (N + 1) b (cells + 1) (slots + NN) (pc + 2) L (.ref (b + N) :: S) st) : z_VB κ T N b cells slots pc L (.int (zI x) :: S) st := by
  obtain ⟨p, l, e, R, s, m, args, below, meth, c, Q, A, D, cA, nL⟩ := κ
  obtain ⟨hx, hb, hml, hn, hown, hts, hlk, hK, hA, hfr, hlo, hce, hsl, hX9, htr⟩ := hc
  intro H locs ls hz hP hS hl
  subst hx9
  have hcl : (zI (NN : Int)).toNatClampNeg = NN := by rw [zI_cl (by omega) (by omega)]; exact Int.toNat_natCast NN
  have hbt9 : NN * componentBytes (newarray.typeOf .boolean) ≤ 536870912 := Nat.le_trans (Nat.mul_le_mul hbt (by decide : componentBytes (newarray.typeOf .boolean) ≤ 8)) (by decide)
  refine va_newaK (atype := .boolean) hx hb (hts _ hw) rfl hd rfl (fun q => by have := (zI_lt hx0 (y := 0) ⟨by decide, by decide⟩).mp q; omega) hcl hbt9 (by omega) (by omega) rfl fun H1 cA9 e1 z1 o1 hAr hNm => ?_
  have hcA : cA9 = cA 2 := by
    have h2 := (hK.2 2 _ rfl).2
    exact Option.some.inj (hNm.symm.trans h2)
  subst hcA
  rw [hz] at e1 z1 o1 ⊢
  refine kk H1 locs ls (by rw [z1]; omega) ?_ ⟨Nat.le_trans hS.1 (by omega), fun x h1 h2 => (o1 x (by have := hS.1; omega)).trans (hS.2.1 x h1 h2), hS.2.2⟩ hl
  rw [z_ws_succ]
  refine (hP.kept (fun k x hx9 => o1 x.1 (by have := (hP k x hx9).lt; omega))).app (fun k x hx9 => ?_)
  have hz9 : k < 1 := (List.getElem?_eq_some_iff.mp hx9).1
  rw [show k = 0 by omega] at hx9
  cases hx9
  rw [hT, show st N = fun _ => 0 from funext hst]
  exact e1

theorem zb_newSound {NN idx d s9 : Nat} {x : Int} (hc : z_C κ own cc n lam mc ms) (hy : z_YC κ) (hst : ∀ y : Int, st N y = 0) (hT : T N = .inr (6, 5, NN, d, s9)) (hw : Cond.classLink own idx RX9 ∈ z_tbl) (hx0 : z32 x) (hx9 : (NN : Int) = x) (hbt : NN ≤ 10000) (hcm : cells + 1 ≤ mc) (hsm : slots + NN ≤ ms) (hd : decode cc pc = .ok (.anewarray idx, 3)) (kk : z_VB κ T (N + 1) b (cells + 1) (slots + NN) (pc + 3) L (.ref (b + N) :: S) st) : z_VB κ T N b cells slots pc L (.int (zI x) :: S) st := by
  obtain ⟨p, l, e, R, s, m, args, below, meth, c, Q, A, D, cA, nL⟩ := κ
  obtain ⟨hx, hb, hml, hn, hown, hts, hlk, hK, hA, hfr, hlo, hce, hsl, hX9, htr⟩ := hc
  intro H locs ls hz hP hS hl
  subst hx9
  have hcl : (zI (NN : Int)).toNatClampNeg = NN := by rw [zI_cl (by omega) (by omega)]; exact Int.toNat_natCast NN
  refine W.anew hx hb hown (hts _ hw) (va_AO.use (hy.2.2 RX9 (by decide))) rfl hd rfl (fun q => by have := (zI_lt hx0 (y := 0) ⟨by decide, by decide⟩).mp q; omega) (by rw [hcl]; omega) (by omega) (by rw [hcl]; omega) fun cA9 kA comp f1 f2 f3 f4 => ?_
  have hcA : cA9 = cA 5 := by
    obtain ⟨_, _, _, _, _, h2⟩ := (hK.2 5 _ rfl).2
    exact Option.some.inj (f1.symm.trans h2)
  subst hcA
  rw [hcl, hz]
  generalize hH1 : H.push ({ cls := cA 5, slots := Array.replicate NN .null, vm := .none } : Cell) = H1
  have z1 : H1.size = b + N + 1 := by rw [← hH1, Array.size_push, hz]
  have e1 : H1[b + N]? = some (arrV (cA 5) NN (fun _ => .null)) := by rw [← hH1, ← hz, Array.getElem?_push_size, ← arrV_new]
  have o1 : ∀ q : Nat, q < b + N → H1[q]? = H[q]? := fun q hq => by rw [← hH1, Array.getElem?_push, if_neg (by omega)]
  refine kk H1 locs ls (by rw [z1]; omega) ?_ ⟨Nat.le_trans hS.1 (by omega), fun x h1 h2 => (o1 x (by have := hS.1; omega)).trans (hS.2.1 x h1 h2), hS.2.2⟩ hl
  rw [z_ws_succ]
  refine (hP.kept (fun k x hx9 => o1 x.1 (by have := (hP k x hx9).lt; omega))).app (fun k x hx9 => ?_)
  have hz9 : k < 1 := (List.getElem?_eq_some_iff.mp hx9).1
  rw [show k = 0 by omega] at hx9
  cases hx9
  rw [hT, show st N = fun _ => 0 from funext hst]
  show H1[b + N]? = some (vp_cell _ _)
  rw [e1]
  show some (arrV (cA 5) NN fun _ => Value.null) = some (arrV (cA 5) NN fun j : Nat => va_rf (if (j : Int) < (0 : Int) then some (z_at b (N + d + s9 * j)) else none))
  refine congrArg some (congrArg (arrV (cA 5) NN) (funext fun j => ?_))
  rw [if_neg (by omega)]
  rfl

theorem zb_newSaying {NN idx d s9 : Nat} {x : Int} (hc : z_C κ own cc n lam mc ms) (hy : z_YC κ) (hst : ∀ y : Int, st N y = 0) (hT : T N = .inr (6, 6, NN, d, s9)) (hw : Cond.classLink own idx RX7 ∈ z_tbl) (hx0 : z32 x) (hx9 : (NN : Int) = x) (hbt : NN ≤ 10000) (hcm : cells + 1 ≤ mc) (hsm : slots + NN ≤ ms) (hd : decode cc pc = .ok (.anewarray idx, 3)) (kk : z_VB κ T (N + 1) b (cells + 1) (slots + NN) (pc + 3) L (.ref (b + N) :: S) st) : z_VB κ T N b cells slots pc L (.int (zI x) :: S) st := by
  obtain ⟨p, l, e, R, s, m, args, below, meth, c, Q, A, D, cA, nL⟩ := κ
  obtain ⟨hx, hb, hml, hn, hown, hts, hlk, hK, hA, hfr, hlo, hce, hsl, hX9, htr⟩ := hc
  intro H locs ls hz hP hS hl
  subst hx9
  have hcl : (zI (NN : Int)).toNatClampNeg = NN := by rw [zI_cl (by omega) (by omega)]; exact Int.toNat_natCast NN
  refine W.anew hx hb hown (hts _ hw) (va_AO.use (hy.2.2 RX7 (by decide))) rfl hd rfl (fun q => by have := (zI_lt hx0 (y := 0) ⟨by decide, by decide⟩).mp q; omega) (by rw [hcl]; omega) (by omega) (by rw [hcl]; omega) fun cA9 kA comp f1 f2 f3 f4 => ?_
  have hcA : cA9 = cA 6 := by
    obtain ⟨_, _, _, _, _, h2⟩ := (hK.2 6 _ rfl).2
    exact Option.some.inj (f1.symm.trans h2)
  subst hcA
  rw [hcl, hz]
  generalize hH1 : H.push ({ cls := cA 6, slots := Array.replicate NN .null, vm := .none } : Cell) = H1
  have z1 : H1.size = b + N + 1 := by rw [← hH1, Array.size_push, hz]
  have e1 : H1[b + N]? = some (arrV (cA 6) NN (fun _ => .null)) := by rw [← hH1, ← hz, Array.getElem?_push_size, ← arrV_new]
  have o1 : ∀ q : Nat, q < b + N → H1[q]? = H[q]? := fun q hq => by rw [← hH1, Array.getElem?_push, if_neg (by omega)]
  refine kk H1 locs ls (by rw [z1]; omega) ?_ ⟨Nat.le_trans hS.1 (by omega), fun x h1 h2 => (o1 x (by have := hS.1; omega)).trans (hS.2.1 x h1 h2), hS.2.2⟩ hl
  rw [z_ws_succ]
  refine (hP.kept (fun k x hx9 => o1 x.1 (by have := (hP k x hx9).lt; omega))).app (fun k x hx9 => ?_)
  have hz9 : k < 1 := (List.getElem?_eq_some_iff.mp hx9).1
  rw [show k = 0 by omega] at hx9
  cases hx9
  rw [hT, show st N = fun _ => 0 from funext hst]
  show H1[b + N]? = some (vp_cell _ _)
  rw [e1]
  show some (arrV (cA 6) NN fun _ => Value.null) = some (arrV (cA 6) NN fun j : Nat => va_rf (if (j : Int) < (0 : Int) then some (z_at b (N + d + s9 * j)) else none))
  refine congrArg some (congrArg (arrV (cA 6) NN) (funext fun j => ?_))
  rw [if_neg (by omega)]
  rfl

theorem zb_mnaI {NN KK idx : Nat} {x y : Int} (hc : z_C κ own cc n lam mc ms) (hy : z_YC κ) (hst : ∀ (k : Nat) (y : Int), N ≤ k → st k y = 0) (hT : T N = .inr (4, 3, NN, 1, 1)) (hT2 : ∀ i, i < NN → T (N + 1 + i) = .inr (0, 0, KK, 0, 0)) (hw : Cond.classLink own idx ("[" ++ (FieldType.array .int).toString) ∈ z_tbl) (ha : Cond.arrayClass .int ∈ z_tbl) (hx0 : z32 x ∧ z32 y) (hx9 : (NN : Int) = x ∧ (KK : Int) = y) (hbt : NN ≤ 1000 ∧ KK ≤ 1000) (hcm : cells + 1 + NN ≤ mc) (hsm : slots + NN + NN * KK ≤ ms) (hd : decode cc pc = .ok (.multianewarray idx 2, 4)) (kk : z_VB κ T (N + 1 + NN) b (cells + 1 + NN) (slots + NN + NN * KK) (pc + 4) L (.ref (b + N) :: S) st) : z_VB κ T N b cells slots pc L (.int (zI y) :: .int (zI x) :: S) st := by
  obtain ⟨p, l, e, R, s, m, args, below, meth, c, Q, A, D, cA, nL⟩ := κ
  obtain ⟨hx, hb, hml, hn, hown, hts, hlk, hK, hA, hfr, hlo, hce, hsl, hX9, htr⟩ := hc
  intro H locs ls hz hP hS hl
  obtain ⟨rfl, rfl⟩ := hx9
  have hcl : (zI (NN : Int)).toNatClampNeg = NN := by rw [zI_cl (by omega) (by omega)]; exact Int.toNat_natCast NN
  have hck : (zI (KK : Int)).toNatClampNeg = KK := by rw [zI_cl (by omega) (by omega)]; exact Int.toNat_natCast KK
  intro T9 hT9 Xs
  have hbk : KK * componentBytes .int ≤ 536870912 := Nat.le_trans (Nat.mul_le_mul hbt.2 (by decide : componentBytes .int ≤ 8)) (by decide)
  obtain ⟨vm₁, cA9, comp, -, fA, fC, hO, -, X', step⟩ := Xs.multianewarray2F hx hown (hts _ hw) (va_AOA.use (hy.2.1 .int (by simp))) (hts _ ha) (g := F0 m pc ls (.int (zI (KK : Int)) :: .int (zI (NN : Int)) :: S)) rfl (by rw [hb]; exact hd) rfl
    (fun q => by have := (zI_lt hx0.1 (y := 0) ⟨by decide, by decide⟩).mp q; omega) (fun q => by have := (zI_lt hx0.2 (y := 0) ⟨by decide, by decide⟩).mp q; omega) (by rw [hcl]; omega) (by rw [hck]; exact hbk) (by rw [hck]; omega) rfl rfl (by rw [hcl]; omega) (by rw [hcl, hck]; omega)
  rw [hcl, hck] at X' step
  have hcA : cA9 = cA 3 := Option.some.inj (fA.symm.trans (hK.2 3 _ rfl).2)
  have hcB : comp = cA 0 := Option.some.inj (fC.symm.trans (hK.2 0 _ rfl).2)
  subst hcA hcB
  generalize hF : Jvm.Free.Multi.fill (T9.setVm vm₁) (cA 3) (cA 0) NN KK (defaultValue .int) NN = F at X' step
  have hTh : (T9.setVm vm₁).heap = H := hT9
  obtain ⟨f1, f2, -, -⟩ := Jvm.Free.Multi.fill_facts (T9.setVm vm₁) (cA 3) (cA 0) NN KK (defaultValue .int) NN
  rw [hF, hTh] at f1 f2
  have hold : ∀ x : Nat, x < H.size → F.heap[x]? = H[x]? := fun x hx => by
    have := Jvm.Free.Multi.fill_old (T9.setVm vm₁) (cA 3) (cA 0) NN KK (defaultValue .int) (a := x) (by rw [hTh]; exact hx) NN
    rw [hF, hTh] at this
    exact this
  have hrow : ∀ j : Nat, j < NN → F.heap[H.size + 1 + j]? = some (arrV (cA 0) KK fun _ => defaultValue .int) := fun j hj => by
    have := Jvm.Free.Multi.fill_inner (T9.setVm vm₁) (cA 3) (cA 0) NN KK (defaultValue .int) NN j hj
    rw [hF, hTh] at this
    rw [this, ← arrV_new]
    rfl
  rw [vr_outer] at f2
  have hP9 : va_P D vwCl (z_ws cA T (z_at b) (N + 1 + NN) st) F.heap := fun k q hq => by
    obtain ⟨hk, rfl⟩ := z_ws_inv hq
    by_cases h1 : k < N
    · exact (hP k _ (z_ws_get h1)).kept (hold _ (hP k _ (z_ws_get h1)).lt)
    · by_cases h2 : k = N
      · subst h2
        rw [hT]
        show F.heap[b + k]? = some (vp_cell _ _)
        rw [← hz, f2]
        show some (arrV (cA 3) NN fun j => va_rf (if j < NN then some (H.size + 1 + j) else none)) = some (arrV (cA 3) NN fun j => va_rf (if j < NN then some (b + (k + 1 + 1 * j)) else none))
        refine congrArg some (congrArg (arrV (cA 3) NN) (funext fun j => congrArg va_rf ?_))
        rw [hz]
        by_cases h3 : j < NN
        · rw [if_pos h3, if_pos h3]
          show some (b + k + 1 + j) = some (b + (k + 1 + 1 * j))
          congr 1
          omega
        · rw [if_neg h3, if_neg h3]
      · obtain ⟨i, rfl⟩ : ∃ i, k = N + 1 + i := ⟨k - N - 1, by omega⟩
        rw [hT2 i (by omega), show st ((N + 1 + i : Nat) : Int) = fun _ => 0 from funext fun y => hst (N + 1 + i) y (by omega)]
        show F.heap[b + (N + 1 + i)]? = some (vp_cell _ _)
        rw [show b + (N + 1 + i) = H.size + 1 + i by omega, hrow i (by omega)]
        rfl
  obtain ⟨t, a1, b1⟩ := kk F.heap locs ls (by rw [f1, hz]; omega) hP9 ⟨by rw [f1]; have := hS.1; omega, fun x h1 h2 => (hold x (Nat.lt_of_lt_of_le h1 hS.1)).trans (hS.2.1 x h1 h2), hS.2.2⟩ hl F rfl (by
    have e1 : slots + NN + NN * KK = slots + NN + NN * KK := rfl
    exact X')
  refine ⟨t, step t ?_, b1⟩
  have e : T9.heap.size = b + N := by rw [hT9, hz]
  rw [e]
  exact a1

theorem zb_mnaJ {NN KK idx : Nat} {x y : Int} (hc : z_C κ own cc n lam mc ms) (hy : z_YC κ) (hst : ∀ (k : Nat) (y : Int), N ≤ k → st k y = 0) (hT : T N = .inr (4, 4, NN, 1, 1)) (hT2 : ∀ i, i < NN → T (N + 1 + i) = .inr (1, 1, KK, 0, 0)) (hw : Cond.classLink own idx ("[" ++ (FieldType.array .long).toString) ∈ z_tbl) (ha : Cond.arrayClass .long ∈ z_tbl) (hx0 : z32 x ∧ z32 y) (hx9 : (NN : Int) = x ∧ (KK : Int) = y) (hbt : NN ≤ 1000 ∧ KK ≤ 1000) (hcm : cells + 1 + NN ≤ mc) (hsm : slots + NN + NN * KK ≤ ms) (hd : decode cc pc = .ok (.multianewarray idx 2, 4)) (kk : z_VB κ T (N + 1 + NN) b (cells + 1 + NN) (slots + NN + NN * KK) (pc + 4) L (.ref (b + N) :: S) st) : z_VB κ T N b cells slots pc L (.int (zI y) :: .int (zI x) :: S) st := by
  obtain ⟨p, l, e, R, s, m, args, below, meth, c, Q, A, D, cA, nL⟩ := κ
  obtain ⟨hx, hb, hml, hn, hown, hts, hlk, hK, hA, hfr, hlo, hce, hsl, hX9, htr⟩ := hc
  intro H locs ls hz hP hS hl
  obtain ⟨rfl, rfl⟩ := hx9
  have hcl : (zI (NN : Int)).toNatClampNeg = NN := by rw [zI_cl (by omega) (by omega)]; exact Int.toNat_natCast NN
  have hck : (zI (KK : Int)).toNatClampNeg = KK := by rw [zI_cl (by omega) (by omega)]; exact Int.toNat_natCast KK
  intro T9 hT9 Xs
  have hbk : KK * componentBytes .long ≤ 536870912 := Nat.le_trans (Nat.mul_le_mul hbt.2 (by decide : componentBytes .long ≤ 8)) (by decide)
  obtain ⟨vm₁, cA9, comp, -, fA, fC, hO, -, X', step⟩ := Xs.multianewarray2F hx hown (hts _ hw) (va_AOA.use (hy.2.1 .long (by simp))) (hts _ ha) (g := F0 m pc ls (.int (zI (KK : Int)) :: .int (zI (NN : Int)) :: S)) rfl (by rw [hb]; exact hd) rfl
    (fun q => by have := (zI_lt hx0.1 (y := 0) ⟨by decide, by decide⟩).mp q; omega) (fun q => by have := (zI_lt hx0.2 (y := 0) ⟨by decide, by decide⟩).mp q; omega) (by rw [hcl]; omega) (by rw [hck]; exact hbk) (by rw [hck]; omega) rfl rfl (by rw [hcl]; omega) (by rw [hcl, hck]; omega)
  rw [hcl, hck] at X' step
  have hcA : cA9 = cA 4 := Option.some.inj (fA.symm.trans (hK.2 4 _ rfl).2)
  have hcB : comp = cA 1 := Option.some.inj (fC.symm.trans (hK.2 1 _ rfl).2)
  subst hcA hcB
  generalize hF : Jvm.Free.Multi.fill (T9.setVm vm₁) (cA 4) (cA 1) NN KK (defaultValue .long) NN = F at X' step
  have hTh : (T9.setVm vm₁).heap = H := hT9
  obtain ⟨f1, f2, -, -⟩ := Jvm.Free.Multi.fill_facts (T9.setVm vm₁) (cA 4) (cA 1) NN KK (defaultValue .long) NN
  rw [hF, hTh] at f1 f2
  have hold : ∀ x : Nat, x < H.size → F.heap[x]? = H[x]? := fun x hx => by
    have := Jvm.Free.Multi.fill_old (T9.setVm vm₁) (cA 4) (cA 1) NN KK (defaultValue .long) (a := x) (by rw [hTh]; exact hx) NN
    rw [hF, hTh] at this
    exact this
  have hrow : ∀ j : Nat, j < NN → F.heap[H.size + 1 + j]? = some (arrV (cA 1) KK fun _ => defaultValue .long) := fun j hj => by
    have := Jvm.Free.Multi.fill_inner (T9.setVm vm₁) (cA 4) (cA 1) NN KK (defaultValue .long) NN j hj
    rw [hF, hTh] at this
    rw [this, ← arrV_new]
    rfl
  rw [vr_outer] at f2
  have hP9 : va_P D vwCl (z_ws cA T (z_at b) (N + 1 + NN) st) F.heap := fun k q hq => by
    obtain ⟨hk, rfl⟩ := z_ws_inv hq
    by_cases h1 : k < N
    · exact (hP k _ (z_ws_get h1)).kept (hold _ (hP k _ (z_ws_get h1)).lt)
    · by_cases h2 : k = N
      · subst h2
        rw [hT]
        show F.heap[b + k]? = some (vp_cell _ _)
        rw [← hz, f2]
        show some (arrV (cA 4) NN fun j => va_rf (if j < NN then some (H.size + 1 + j) else none)) = some (arrV (cA 4) NN fun j => va_rf (if j < NN then some (b + (k + 1 + 1 * j)) else none))
        refine congrArg some (congrArg (arrV (cA 4) NN) (funext fun j => congrArg va_rf ?_))
        rw [hz]
        by_cases h3 : j < NN
        · rw [if_pos h3, if_pos h3]
          show some (b + k + 1 + j) = some (b + (k + 1 + 1 * j))
          congr 1
          omega
        · rw [if_neg h3, if_neg h3]
      · obtain ⟨i, rfl⟩ : ∃ i, k = N + 1 + i := ⟨k - N - 1, by omega⟩
        rw [hT2 i (by omega), show st ((N + 1 + i : Nat) : Int) = fun _ => 0 from funext fun y => hst (N + 1 + i) y (by omega)]
        show F.heap[b + (N + 1 + i)]? = some (vp_cell _ _)
        rw [show b + (N + 1 + i) = H.size + 1 + i by omega, hrow i (by omega)]
        rfl
  obtain ⟨t, a1, b1⟩ := kk F.heap locs ls (by rw [f1, hz]; omega) hP9 ⟨by rw [f1]; have := hS.1; omega, fun x h1 h2 => (hold x (Nat.lt_of_lt_of_le h1 hS.1)).trans (hS.2.1 x h1 h2), hS.2.2⟩ hl F rfl (by
    have e1 : slots + NN + NN * KK = slots + NN + NN * KK := rfl
    exact X')
  refine ⟨t, step t ?_, b1⟩
  have e : T9.heap.size = b + N := by rw [hT9, hz]
  rw [e]
  exact a1

theorem zb_aast {kA kv ci i NN d s9 τ : Nat} {ks : List (Nat × Nat)} {kAI i9 : Int} (hc : z_C κ own cc n lam mc ms) (hab : z_AB κ b N) (hT : T kA = .inr (6, τ, NN, d, s9)) (hk : kA < N) (hkI : (kA : Int) = kAI) (hτ : ∃ C : String, (∀ cA : Nat → ClassId, (z_tys cA)[τ]? = some (cA τ, .object C)) ∧ ∃ q : vw_C, vwCl[ci]? = some q ∧ q.1 = C) (hTv : T kv = .inl (ci, ks)) (hkv : kv < N) (hkv2 : kv = kA + d + s9 * i) (hcnt : st kAI (-1) = i9) (hi : (i : Int) = i9) (hiN : i < NN) (hNN : NN ≤ 10000) (hd : decode cc pc = .ok (.aastore, 1)) (kk : z_VB κ T N b cells slots (pc + 1) L S (z_up st kAI (-1) (i9 + 1))) : z_VB κ T N b cells slots pc L (.ref (b + kv) :: .int (zI i9) :: .ref (b + kA) :: S) st := by
  obtain ⟨p, l, e, R, s, m, args, below, meth, c, Q, A, D, cA, nL⟩ := κ
  obtain ⟨hx, hb, hml, hn, hown, hts, hlk, hK, hA, hfr, hlo, hce, hsl, hX9, htr⟩ := hc
  intro H locs ls hz hP hS hl
  subst hkI hi
  obtain ⟨C, ht, q, g1, rfl⟩ := hτ
  have hw := z_ws_get (cA := cA) (T := T) (a := z_at b) (st := st) hk
  rw [hT] at hw
  have hwv := z_ws_get (cA := cA) (T := T) (a := z_at b) (st := st) hkv
  rw [hTv] at hwv
  have hD : va_D A (z_ws cA T (z_at b) N st) := (z_D (sz := s.heap.size) (z_at_inj b N)).weaken (fun k9 q9 h9 _ => by obtain ⟨h1, rfl⟩ := z_ws_inv h9; exact hab _ h1)
  have hci : (zI (i : Int)).toNatClampNeg = i := by rw [zI_cl (by omega) (by omega)]; exact Int.toNat_natCast i
  have h0 : ¬ zI (i : Int) < 0 := fun q => by have := (zI_lt (x := (i : Int)) (y := 0) ⟨by omega, by omega⟩ ⟨by decide, by decide⟩).mp q; omega
  obtain ⟨r', hr', cellV, v1, v2, v3, -⟩ := hP kv _ hwv
  have hcls := (hK.1 ci q g1).2
  obtain ⟨kA9, comp, k1, k2, k3, -⟩ := (hK.2 τ _ (ht cA)).2
  have hcomp : comp = D.1 ci := Option.some.inj (k3.symm.trans hcls.1)
  subst hcomp
  obtain ⟨kC, hkC, -⟩ := hcls.2
  refine W.aast hx hb (hP kA _ hw) (fun q h => by cases h) (fun h => by cases h) k1 k2 rfl hkC ⟨h0, by show _ < (arrV _ _ _).slots.size; rw [arrV_size, hci]; exact hiN⟩ v1 (fun q h => by rw [v3] at h; cases h) (by rw [v2]; exact hkC) (by rw [v2]; exact va_assign hcls) rfl rfl hd fun H1 e z oq => ?_
  have hP1 := hP.set hD hw (e := z_ent (z_at b) cA (T kA) kA (z_up st kA (-1) ((i : Int) + 1) kA)) (by
    rw [hT]
    show H1[b + kA]? = some (vp_cell _ _)
    rw [show b + kA = z_at b kA from rfl, e, hci]
    show some ((arrV (cA τ) NN fun j : Nat => va_rf (if (j : Int) < st kA (-1) then some (z_at b (kA + d + s9 * j)) else none)).setSlot i (Value.ref (z_at b kv))) = some (arrV (cA τ) NN fun j : Nat => va_rf (if (j : Int) < z_up st kA (-1) ((i : Int) + 1) kA (-1) then some (z_at b (kA + d + s9 * j)) else none))
    rw [arrV_store, z_up_at]
    refine congrArg some (congrArg (arrV (cA τ) NN) (funext fun j => ?_))
    unfold updV
    by_cases e9 : j = i
    · subst e9
      rw [if_pos rfl, if_pos (by omega), hkv2]
      rfl
    · rw [if_neg e9]
      rw [hcnt]
      dsimp only
      by_cases e8 : (j : Int) < i
      · rw [if_pos e8, if_pos (by omega)]
      · rw [if_neg e8, if_neg (by omega)]) oq
  rw [z_ws_set (st' := z_up st kA (-1) ((i : Int) + 1)) hk rfl (fun k' hk' => z_up_ne rfl hk')] at hP1
  exact kk H1 _ ls (by rw [z]; exact hz) hP1 (hS.put z oq (hab kA hk)) hl
theorem zb_T {T2 : Nat → z_Ty} (h : ∀ k, k < N → T k = T2 k) (kk : z_VB κ T2 N b cells slots pc L S st) : z_VB κ T N b cells slots pc L S st := by
  obtain ⟨p, l, e, R, s, m, args, below, meth, c, Q, A, D, cA, nL⟩ := κ
  intro H locs ls hz hP hS hl
  refine kk H locs ls hz ?_ hS hl
  rw [show z_ws cA T2 (z_at b) N st = z_ws cA T (z_at b) N st from List.map_congr_left fun k hk => by rw [h k (List.mem_range.mp hk)]]
  exact hP
theorem zb_full {k τ NN d s9 : Nat} {kI : Int} (hkI : (k : Int) = kI) (hT : T k = .inr (6, τ, NN, d, s9)) (hcnt : st kI (-1) = NN) (kk : z_VB κ (z_Tu T k (.inr (4, τ, NN, d, s9))) N b cells slots pc L S st) : z_VB κ T N b cells slots pc L S st := by
  subst hkI
  obtain ⟨p, l, e, R, s, m, args, below, meth, c, Q, A, D, cA, nL⟩ := κ
  intro H locs ls hz hP hS hl
  refine kk H locs ls hz ?_ hS hl
  rw [show z_ws cA (z_Tu T k (.inr (4, τ, NN, d, s9))) (z_at b) N st = z_ws cA T (z_at b) N st from List.map_congr_left fun k' hk => by
    by_cases e : k' = k
    · subst e
      rw [z_Tu_s, hT]
      show _ = (z_at b k', Sum.inl (cA τ, (NN, _)))
      show (z_at b k', Sum.inl (cA τ, (NN, _))) = _
      have ef : (fun j : Nat => if j < NN then some (z_at b (k' + d + s9 * j)) else none) = fun j : Nat => if (j : Int) < st k' (-1) then some (z_at b (k' + d + s9 * j)) else none := by
        funext j
        rw [hcnt]
        by_cases h : j < NN
        · rw [if_pos h, if_pos (by omega)]
        · rw [if_neg h, if_neg (by omega)]
      show (z_at b k', (Sum.inl (cA τ, (NN, .inr (.inr (.inr (.inr (fun j : Nat => if j < NN then some (z_at b (k' + d + s9 * j)) else none)))))) : va_E)) = _
      rw [ef]
    · rw [z_Tu_n e]]
  exact hP
theorem zb_ret {mcE msE : Nat} {T9 : Nat → z_Ty} {N9 : Nat} {st9 : z_St} (hc : z_C κ own cc n lam mc ms) (he : z_EB κ mcE msE T9 N9 b st9) (h1 : cells = mcE) (h2 : slots = msE) (h3 : T = T9) (h4 : N = N9) (h5 : st = st9) (hd : decode cc pc = .ok (.return_, 1)) : z_VB κ T N b cells slots pc L [] st := by
  subst h1 h2 h3 h4 h5
  obtain ⟨p, l, e, R, s, m, args, below, meth, c, Q, A, D, cA, nL⟩ := κ
  obtain ⟨hx, hb, hml, hn, hown, hts, hlk, hK, hA, hfr, hlo, hce, hsl, hX9, htr⟩ := hc
  obtain ⟨hr, -, hQ⟩ := he
  intro H locs ls hz hP hS hl
  subst hQ
  exact W.vret hx hb hr (fun t ht hW => ⟨⟨(), rfl, trivial, by rw [ht]; exact hz, by rw [ht]; exact hP⟩, by rw [ht]; exact hS.1, fun q h1 h2 => by rw [ht]; exact hS.2.1 q h1 h2⟩) hS.2.2 hd hlk

theorem zb_callN {y : MethodName} {cc' : ByteArray} {n' np lam' idx mc' ms' k N' : Nat} {T' : Nat → z_Ty} {st' : z_St} (hc : z_C κ own cc n lam mc ms) (hab : z_AB κ b N) (hab2 : ∀ q : Nat, b + N ≤ q → match κ with | (_, _, _, _, _, _, _, _, _, _, _, A, _, _, _) => A q) (hlk9 : (own, idx, y) ∈ z_nst) (hy : z_YC κ) (ho : z_oB y cc' n' none np ∧ Cond.instanceMethod y ∈ z_tbl) (hnp : np = 0) (hin : y.name = "<init>") (hM : ∀ l : Launch, l.stackTraces = false → z_MB l y cc' n' lam' mc' ms' T N b [.ref (b + k)] st T' N' st') (hlam : lam' < lam) (hW : (S.map fun v => v.category).sum ≤ 8) (hcm : cells + mc' ≤ mc) (hsm : slots + ms' ≤ ms) (hd : decode cc pc = .ok (.invokespecial idx, 3)) (kk : z_VB κ T' N' b (cells + mc') (slots + ms') (pc + 3) L S st') : z_VB κ T N b cells slots pc L (.ref (b + k) :: S) st := by
  obtain ⟨p, l, e, R, s, m, args, below, meth, c, Q, A, D, cA, nL⟩ := κ
  obtain ⟨hx, hb, hml, hn, hown, hts, hlk, hK, hA, hfr, hlo, hce, hsl, hX9, htr⟩ := hc
  intro H locs ls hz hP hS hl
  subst hnp
  have hA1 : ∀ q, z_A (z_at b) N (b + N) q → A q := fun q h => by
    rcases h with ⟨k9, h1, rfl⟩ | h
    · exact hab k9 h1
    · exact hab2 q h
  refine va_callv (va_runIN (host := RX11) (As := []) (rest := S) ⟨hx, hb, hml.trans hn, hown, hts⟩ (hM l htr D cA) ⟨va_cnB 0 hts (z_gd ho.1.1) rfl rfl rfl (hy.1 _ hlk9) (hts _ ho.1.2.1) ho.1.2.2.1 ⟨by show lam' + 1 ≤ _; omega, by have := ho.1.2.2.2; show 8 + (n' + 11) + 60 * lam' ≤ _; omega⟩, hin, hts _ ho.2⟩ ⟨z_blindB, fun U hU hW9 => ⟨?_, z_Y.warm hW9 hy⟩⟩ rfl rfl (by show ls.size = n; rw [hl.1, hn]) rfl (lv_room hW) hd ⟨by omega, by omega⟩) hS (fun q _ h => hA1 q h) hA1 (fun u t H1 locs1 ht _ hw9 hB _ _ hS1 => ?_)
  · have h9 := z_pre (As := [.ref (b + k)]) hP hS hK hX9 hA (z_at_inj b N) hab U hU hW9
    rw [hz] at h9
    exact h9
  · obtain ⟨hB1, hB2⟩ := hB
    rw [ht] at hB1 hB2
    exact kk H1 locs1 ls hB1 hB2 hS1 hl

theorem zb_callI {y : MethodName} {cc' : ByteArray} {n' np lam' idx mc' ms' k N' : Nat} {T' : Nat → z_Ty} {st' : z_St} (hc : z_C κ own cc n lam mc ms) (hab : z_AB κ b N) (hab2 : ∀ q : Nat, b + N ≤ q → match κ with | (_, _, _, _, _, _, _, _, _, _, _, A, _, _, _) => A q) (hlk9 : Cond.methodLink own idx y ∈ z_tbl) (hy : z_YC κ) (ho : z_oB y cc' n' none np ∧ Cond.instanceMethod y ∈ z_tbl) (hnp : np = 0) (hin : y.name = "<init>") (hM : ∀ l : Launch, l.stackTraces = false → z_MB l y cc' n' lam' mc' ms' T N b [.ref (b + k)] st T' N' st') (hlam : lam' < lam) (hW : (S.map fun v => v.category).sum ≤ 8) (hcm : cells + mc' ≤ mc) (hsm : slots + ms' ≤ ms) (hd : decode cc pc = .ok (.invokespecial idx, 3)) (kk : z_VB κ T' N' b (cells + mc') (slots + ms') (pc + 3) L S st') : z_VB κ T N b cells slots pc L (.ref (b + k) :: S) st := by
  obtain ⟨p, l, e, R, s, m, args, below, meth, c, Q, A, D, cA, nL⟩ := κ
  obtain ⟨hx, hb, hml, hn, hown, hts, hlk, hK, hA, hfr, hlo, hce, hsl, hX9, htr⟩ := hc
  intro H locs ls hz hP hS hl
  subst hnp
  have hA1 : ∀ q, z_A (z_at b) N (b + N) q → A q := fun q h => by
    rcases h with ⟨k9, h1, rfl⟩ | h
    · exact hab k9 h1
    · exact hab2 q h
  refine va_callv (va_runI  (As := []) (rest := S) ⟨hx, hb, hml.trans hn, hown, hts⟩ (hM l htr D cA) ⟨z_callB ho.1 hts hlk9 hlam hfr hlo, hin, hts _ ho.2⟩ ⟨z_blindB, fun U hU hW9 => ⟨?_, z_Y.warm hW9 hy⟩⟩ rfl rfl (by show ls.size = n; rw [hl.1, hn]) rfl (lv_room hW) hd ⟨by omega, by omega⟩) hS (fun q _ h => hA1 q h) hA1 (fun u t H1 locs1 ht _ hw9 hB _ _ hS1 => ?_)
  · have h9 := z_pre (As := [.ref (b + k)]) hP hS hK hX9 hA (z_at_inj b N) hab U hU hW9
    rw [hz] at h9
    exact h9
  · obtain ⟨hB1, hB2⟩ := hB
    rw [ht] at hB1 hB2
    exact kk H1 locs1 ls hB1 hB2 hS1 hl

end
theorem z_ofB {l : Launch} {y : MethodName} {cc : ByteArray} {n lam mc ms : Nat} {T T' : Nat → z_Ty} {N N' b : Nat} {As : List Value} {st st' : z_St} (htr : l.stackTraces = false) (hy : plainName y.cls = true) (hnm : y.name = "<init>") (hAs : (lg_sl As).length ≤ n)
    (body : ∀ κ : zK, z_C κ y.cls cc n lam mc ms → z_YC κ → z_AB κ b N → (∀ q : Nat, b + N ≤ q → match κ with | (_, _, _, _, _, _, _, _, _, _, _, A, _, _, _) => A q) → z_EB κ mc ms T' N' b st' → z_VB κ T N b 0 0 0 (lv_args 0 As) [] st) : z_MB l y cc n lam mc ms T N b As st T' N' st' := by
  intro D cA
  refine Met.ofW (cc := cc) (maxL := n) (ret := none) hy rfl ?_
  intro p e s m args below meth c s₁ B hml hv
  obtain ⟨⟨rfl, hsz, hP, hK, hX9, hinj⟩, hY⟩ := hv
  have hts := atoms_spec (ws := z_w y cc n none) B.pre
  have hl := lv_entry As hAs
  rw [lg_entry_eq]
  have hin : meth.name = "<init>" := by rw [(name_of_methodNamed B.named B.method).1]; exact hnm
  exact body (p, l, e, _, s, m, As.toArray, below, meth, c, _, z_A (z_at b) N (b + N), D, cA, n)
    ⟨B.exec, B.bytes, hml, rfl, findClass_of_methodNamed B.named, fun w hw => hts w (List.mem_cons_of_mem _ hw), B.notSynchronized, hK, fun q h => Or.inr (by rw [hsz] at h; exact h), Nat.le_refl _, Nat.le_refl _, Nat.le_refl _, Nat.le_refl _, hX9, htr⟩
    hY (fun k h => Or.inl ⟨k, h, rfl⟩) (fun q h => Or.inr h) ⟨B.returns, hin, rfl⟩ s.heap [] _ hsz hP va_S.rf hl
