-- CONTRACTS, CALLS, ENDS OF THE LAYER Z (laid by wip/gen32/zcall.py)
def z_rm (lam mc ms : Nat) : Room := { frames := lam, cells := mc, slots := ms, locals := 60 * lam }
def z_Pc (T : Nat → z_Ty) (N : Nat) (a : Nat → Nat) (D : va_G) (cA : Nat → ClassId) (st : z_St) (As : List Value) (sz : Nat) : Array Value → State → Prop := va_Pc As (fun U => U.heap.size = sz ∧ va_P D vwCl (z_ws cA T a N st) U.heap ∧ va_K D vwCl (z_tys cA) U ∧ z_X (z_A a N sz) U U.heap ∧ z_inj a N)
/-- how a method ends that returns r and leaves st'; kd: 0 an int, 1 a long, 2 nothing, 3 a reference to the cell r -/
def z_Q (kd : Nat) (T : Nat → z_Ty) (N : Nat) (a : Nat → Nat) (D : va_G) (cA : Nat → ClassId) (r : Int) (st' : z_St) (A : Nat → Prop) : Array Value → State → Outcome → State → Prop := match kd with
  | 0 => va_Qi (fun x (_ : Unit) => x = zI r) (fun _ t => va_P D vwCl (z_ws cA T a N st') t.heap) A
  | 1 => va_Ql (fun x (_ : Unit) => x = zJ r) (fun _ t => va_P D vwCl (z_ws cA T a N st') t.heap) A
  | 2 => va_Qv (fun (_ : Unit) => True) (fun _ t => va_P D vwCl (z_ws cA T a N st') t.heap) A
  | _ => va_Qr (fun (_ : Unit) => True) (fun _ q t => q = a r.toNat ∧ va_P D vwCl (z_ws cA T a N st') t.heap) A
def z_M (kd : Nat) (l : Launch) (y : MethodName) (cc : ByteArray) (n : Nat) (ret : Option FieldType) (lam : Nat) (T : Nat → z_Ty) (N : Nat) (a : Nat → Nat) (As : List Value) (st : z_St) (r : Int) (st' : z_St) : Prop :=
  ∀ (D : va_G) (cA : Nat → ClassId) (sz : Nat), Met l y (z_w y cc n ret) (z_rm lam 0 0) (z_Pc T N a D cA st As sz) (z_Q kd T N a D cA r st' (z_A a N sz)) 0 0 (z_A a N sz)
def z_E (kd : Nat) (κ : zK) (rt : Option FieldType) (T : Nat → z_Ty) (N : Nat) (a : Nat → Nat) (r : Int) (st' : z_St) : Prop := match κ with
  | (_, _, _, _, s, _, args, below, meth, _, Q, A, D, cA, _) => meth.sig.returnType = rt ∧ Q = MQ below (z_Q kd T N a D cA r st' A) args s 0 0 A
abbrev z_RR : Type := z_R (Int × z_St)
def z_mc (R : z_RR) : Nat := match R with
  | .inl _ => 0
  | .inr _ => 1
def z_ms (R : z_RR) : Nat := match R with
  | .inl _ => 0
  | .inr _ => 6
def z_QX (kd : Nat) (T : Nat → z_Ty) (N : Nat) (a : Nat → Nat) (D : va_G) (cA : Nat → ClassId) (R : z_RR) (A : Nat → Prop) : Array Value → State → Outcome → State → Prop := match R with
  | .inl q => z_Q kd T N a D cA q.1 q.2 A
  | .inr _ => va_Qv (fun (_ : Unit) => False) (fun _ _ => True) A
def z_XX (T : Nat → z_Ty) (N : Nat) (a : Nat → Nat) (D : va_G) (cA : Nat → ClassId) (R : z_RR) (A : Nat → Prop) : String → State → State → Prop := match R with
  | .inl _ => vx_X (fun (_ : Unit) => False) (fun _ _ _ => False) A
  | .inr q => vx_X (fun (_ : Unit) => True) (fun E _ t => E = z_en q.1 ∧ va_P D vwCl (z_ws cA T a N q.2) t.heap) A
def z_MX (kd : Nat) (l : Launch) (y : MethodName) (cc : ByteArray) (n : Nat) (ret : Option FieldType) (lam : Nat) (T : Nat → z_Ty) (N : Nat) (a : Nat → Nat) (As : List Value) (st : z_St) (R : z_RR) : Prop :=
  ∀ (D : va_G) (cA : Nat → ClassId) (sz : Nat), vx_Met l y (z_w y cc n ret) (z_rm lam (z_mc R) (z_ms R)) (z_Pc T N a D cA st As sz) (z_QX kd T N a D cA R (z_A a N sz)) (z_XX T N a D cA R (z_A a N sz)) (z_mc R) (z_ms R) (z_A a N sz)
def z_EX (kd : Nat) (κ : zK) (rt : Option FieldType) (T : Nat → z_Ty) (N : Nat) (a : Nat → Nat) (R : z_RR) : Prop := match κ with
  | (_, _, _, _, s, _, args, below, meth, c, Q, A, D, cA, _) => meth.sig.returnType = rt ∧ (∀ x ∈ c.exceptionTable.toList, False) ∧ Q = vx_MQ below (z_QX kd T N a D cA R A) (z_XX T N a D cA R A) args s (z_mc R) (z_ms R) A
/-- what leaves a method that may throw, by what its pure text says -/
def z_cvR (st : z_St) (o : z_R Int) : z_RR := match o with
  | .inl v => .inl (v, st)
  | .inr q => .inr q
def z_cvU (st : z_St) (o : z_R Unit) : z_RR := match o with
  | .inl _ => .inl (0, st)
  | .inr q => .inr q
def z_cvS (o : z_R z_St) : z_RR := match o with
  | .inl s => .inl (0, s)
  | .inr q => .inr q
theorem z_x_cases {α β : Type} {x : Option (z_R α)} {f : α → Option (z_R β)} {r : z_R β} (h : z_x x f = some r) : (∃ v, x = some (.inl v) ∧ f v = some r) ∨ (∃ q, x = some (.inr q) ∧ r = .inr q) := by
  cases x with
  | none => cases h
  | some y => cases y with
    | inl v => exact Or.inl ⟨v, rfl, h⟩
    | inr q =>
      have h' : some (Sum.inr q) = some r := h
      cases h'
      exact Or.inr ⟨q, rfl, rfl⟩
theorem z_blind {T : Nat → z_Ty} {N : Nat} {a : Nat → Nat} {D : va_G} {cA : Nat → ClassId} {st : z_St} {As : List Value} {sz : Nat} : FrameBlind (z_Pc T N a D cA st As sz) := fun av U g mk q => by
  obtain ⟨q0, q1, q2, q3, ⟨x1, x2, x3, x4, x5, x6⟩, q5⟩ := q
  have hal : U.vm.Alike (U.calling g mk av).vm := Vm.Alike.refl U.vm
  exact ⟨q0, q1, q2, va_K.moved hal q3, ⟨x1.moved hal, x2.moved hal, fun i hi => by
    have h9 := x3 i hi
    unfold va_Nw at h9 ⊢
    exact va_tabs (A := #[]) rfl rfl h9, fun i j hi hj hn => (x4 i j hi hj hn).moved9 hal, fun q9 h9 => by
    obtain ⟨sa, h6⟩ := x5 q9 h9
    exact ⟨sa, vk_R.same rfl h6⟩, fun y hy => by
    have h9 := x6 y hy
    unfold va_Nw at h9 ⊢
    exact va_tabs (A := #[]) rfl rfl h9⟩, q5⟩
theorem z_pre {T : Nat → z_Ty} {N : Nat} {a : Nat → Nat} {D : va_G} {cA : Nat → ClassId} {st : z_St} {As : List Value} {A : Nat → Prop} {s : State} {H : Heap} {locs : List Loc} (hP : va_P D vwCl (z_ws cA T a N st) H) (hS : va_S A s.heap H locs) (hK : va_K D vwCl (z_tys cA) s) (hX9 : z_X A s s.heap) (hA : ∀ q : Nat, s.heap.size ≤ q → A q) (hinj : z_inj a N) (hAk : ∀ k : Nat, k < N → A (a k)) : ∀ U : State, U.heap = H → s.WarmedH U.vm → z_Pc T N a D cA st As H.size As.toArray U := by
  intro U hU hW
  refine ⟨rfl, by rw [hU], by rw [hU]; exact hP, va_K.moved hW.alike hK, ?_, hinj⟩
  rw [hU]
  refine z_X.go hX9 hS.2.1 (fun q h => ?_) hW
  rcases h with ⟨k, h1, rfl⟩ | h
  · exact hAk k h1
  · exact hA q (Nat.le_trans hS.1 h)
theorem z_A1 {a : Nat → Nat} {N : Nat} {A : Nat → Prop} {H0 H : Heap} {locs : List Loc} (hS : va_S A H0 H locs) (hA : ∀ q : Nat, H0.size ≤ q → A q) (hAk : ∀ k : Nat, k < N → A (a k)) : ∀ q, z_A a N H.size q → A q := by
  rintro q (⟨k, h1, rfl⟩ | h)
  · exact hAk k h1
  · exact hA q (Nat.le_trans hS.1 h)
/-- what the tables say of a method that is called: an instance's, a static one -/
def z_oB (y : MethodName) (cc : ByteArray) (n : Nat) (ret : Option FieldType) (np : Nat) : Prop := Cond.code y cc n ret ∈ z_tbl ∧ Cond.initialized y.cls ∈ z_tbl ∧ (y.cls ≠ "java/lang/invoke/MethodHandle" ∧ y.cls ≠ "java/lang/invoke/VarHandle" ∧ (parseMethodDescriptor y.desc).map (fun d => d.parameters.length) = some np) ∧ n ≤ 41
def z_oV (y : MethodName) (cc : ByteArray) (n : Nat) (ret : Option FieldType) (np : Nat) : Prop := z_oB y cc n ret np ∧ Cond.instanceMethod y ∈ z_tbl ∧ Cond.selects y.cls y y ∈ z_tbl
def z_oS (y : MethodName) (cc : ByteArray) (n : Nat) (ret : Option FieldType) (np : Nat) : Prop := z_oB y cc n ret np ∧ Cond.static y ∈ z_tbl
theorem z_callB {y : MethodName} {cc : ByteArray} {n : Nat} {ret : Option FieldType} {np lam lam' idx mc ms : Nat} {own : String} {R : Room} {s : State} {args : Array Value} (ho : z_oB y cc n ret np) (hts : ∀ w ∈ z_tbl, w.before args s = true) (hl : Cond.methodLink own idx y ∈ z_tbl) (hlam : lam' < lam) (hfr : lam ≤ R.frames) (hlo : 60 * lam ≤ R.locals) : CallB R s args own idx y cc n ret (z_w y cc n ret) (z_rm lam' mc ms) mc ms np := by
  obtain ⟨o1, o2, o3, o4⟩ := ho
  exact callB_of np hts (z_gd o1) rfl rfl rfl (hts _ o2) (hts _ hl) o3 ⟨by show lam' + 1 ≤ _; omega, by show 8 + (n + 11) + 60 * lam' ≤ _; omega⟩
theorem z_iniC {R : Room} {s : State} {args : Array Value} {own : String} {index : Nat} {y : MethodName} {bytes : ByteArray} {maxL : Nat} {ret : Option FieldType} {ws : List Cond} {rm : Room} {mc ms n : Nat} (h : CallB R s args own index y bytes maxL ret ws rm mc ms n) : (Cond.initialized y.cls).before args s = true := h.2.2.2.2.2.2.2.1

section
variable {κ : zK} {own : String} {cc : ByteArray} {n lam mc ms : Nat} {T : Nat → z_Ty} {N : Nat} {a : Nat → Nat} {cells slots pc : Nat} {L : List (Nat × Value)} {S : List Value} {st : z_St}
theorem z_callVI {y : MethodName} {cc' : ByteArray} {n' np lam' idx : Nat} {ret : Option FieldType} {ci k : Nat} {ks : List (Nat × Nat)} {S0 : List Value} {r : Int} {st' : z_St} (As : List Value) (hc : z_C κ own cc n lam mc ms) (hap : z_AP κ a N) (ho : z_oV y cc' n' ret np) (hlk9 : Cond.methodLink own idx y ∈ z_tbl) (hM : ∀ l : Launch, l.stackTraces = false → z_M 0 l y cc' n' ret lam' T N a (.ref (a k) :: As) st r st') (hlam : lam' < lam) (hT : T k = .inl (ci, ks)) (hk : k < N) (hC : ∃ q : vw_C, vwCl[ci]? = some q ∧ q.1 = y.cls) (hAs : As.length = np) (hS0 : S0 = As.reverse ++ .ref (a k) :: S) (hW : (S.map fun v => v.category).sum ≤ 8) (hcl : cells ≤ mc) (hsl9 : slots ≤ ms) (hd : decode cc pc = .ok (.invokevirtual idx, 3)) (kk : z_V κ T N a cells slots (pc + 3) L (.int (zI r) :: S) st') : z_V κ T N a cells slots pc L S0 st := by
  obtain ⟨p, l, e, R, s, m, args, below, meth, c, Q, A, D, cA, nL⟩ := κ
  obtain ⟨hx, hb, hml, hn, hown, hts, hlk, hK, hA, hfr, hlo, hce, hsl, hX9, htr⟩ := hc
  intro H locs ls hP hS hl
  obtain ⟨q9, hc1, hc2⟩ := hC
  have hw := z_ws_get (cA := cA) (T := T) (a := a) (st := st) hk
  rw [hT] at hw
  have hcell := va_recv hK hP (ci := ci) (q0 := k) hc1 hw
  rw [hc2] at hcell
  have hcm : cells + 0 ≤ R.cells := by omega
  have hsm : slots + 0 ≤ R.slots := by omega
  refine va_calli (va_runV (C := y.cls) (As := As) (rest := S) ⟨hx, hb, hml.trans hn, hown, hts⟩ (hM l htr D cA H.size) ⟨z_callB ho.1 hts hlk9 hlam hfr hlo, hts _ ho.2.1, hts _ ho.2.2⟩ ⟨z_blind, hcell, z_pre (As := .ref (a k) :: As) hP hS hK hX9 hA hap.1 hap.2⟩ rfl hAs (by show ls.size = n; rw [hl.1, hn]) hS0 (lv_room hW) hd ⟨hcm, hsm⟩) hS (fun q _ h => z_A1 hS hA hap.2 q h) (z_A1 hS hA hap.2) (fun x u t H1 locs1 ht _ hw9 hB _ _ hS1 => ?_)
  have hw9 : x = zI r := hw9
  subst hw9
  rw [ht] at hB
  exact kk H1 locs1 ls hB hS1 hl

theorem z_xcallVI {y : MethodName} {cc' : ByteArray} {n' np lam' idx : Nat} {ret : Option FieldType} {ci k : Nat} {ks : List (Nat × Nat)} {S0 : List Value} {r : Int} {st' : z_St} (As : List Value) (hc : z_C κ own cc n lam mc ms) (hap : z_AP κ a N) (ho : z_oV y cc' n' ret np) (hlk9 : Cond.methodLink own idx y ∈ z_tbl) (hM : ∀ l : Launch, l.stackTraces = false → z_MX 0 l y cc' n' ret lam' T N a (.ref (a k) :: As) st (.inl (r, st'))) (hlam : lam' < lam) (hT : T k = .inl (ci, ks)) (hk : k < N) (hC : ∃ q : vw_C, vwCl[ci]? = some q ∧ q.1 = y.cls) (hAs : As.length = np) (hS0 : S0 = As.reverse ++ .ref (a k) :: S) (hW : (S.map fun v => v.category).sum ≤ 8) (hcl : cells ≤ mc) (hsl9 : slots ≤ ms) (hd : decode cc pc = .ok (.invokevirtual idx, 3)) (kk : z_V κ T N a cells slots (pc + 3) L (.int (zI r) :: S) st') : z_V κ T N a cells slots pc L S0 st := by
  obtain ⟨p, l, e, R, s, m, args, below, meth, c, Q, A, D, cA, nL⟩ := κ
  obtain ⟨hx, hb, hml, hn, hown, hts, hlk, hK, hA, hfr, hlo, hce, hsl, hX9, htr⟩ := hc
  intro H locs ls hP hS hl
  obtain ⟨q9, hc1, hc2⟩ := hC
  have hw := z_ws_get (cA := cA) (T := T) (a := a) (st := st) hk
  rw [hT] at hw
  have hcell := va_recv hK hP (ci := ci) (q0 := k) hc1 hw
  rw [hc2] at hcell
  have hcm : cells + 0 ≤ R.cells := by omega
  have hsm : slots + 0 ≤ R.slots := by omega
  refine vx_calli (vx_runV (C := y.cls) (As := As) (rest := S) ⟨hx, hb, hml.trans hn, hown, hts⟩ (hM l htr D cA H.size) ⟨z_callB ho.1 hts hlk9 hlam hfr hlo, hts _ ho.2.1, hts _ ho.2.2⟩ ⟨z_blind, hcell, z_pre (As := .ref (a k) :: As) hP hS hK hX9 hA hap.1 hap.2⟩ rfl hAs (by show ls.size = n; rw [hl.1, hn]) hS0 (lv_room hW) hd ⟨hcm, hsm⟩) hS (fun q _ h => z_A1 hS hA hap.2 q h) (z_A1 hS hA hap.2) (fun q _ h => z_A1 hS hA hap.2 q h) (fun E ce q9 u t H1 locs1 ht _ hpx => absurd hpx id) (fun x u t H1 locs1 ht _ hw9 hB _ _ hS1 => ?_)
  have hw9 : x = zI r := hw9
  subst hw9
  rw [ht] at hB
  exact kk H1 locs1 ls hB hS1 hl

theorem z_callSI {y : MethodName} {cc' : ByteArray} {n' np lam' idx : Nat} {ret : Option FieldType} {S0 : List Value} {r : Int} {st' : z_St} (As : List Value) (hc : z_C κ own cc n lam mc ms) (hap : z_AP κ a N) (ho : z_oS y cc' n' ret np) (hlk9 : Cond.methodLink own idx y ∈ z_tbl) (hM : ∀ l : Launch, l.stackTraces = false → z_M 0 l y cc' n' ret lam' T N a As st r st') (hlam : lam' < lam) (hAs : As.length = np) (hS0 : S0 = As.reverse ++ S) (hW : (S.map fun v => v.category).sum ≤ 8) (hcl : cells ≤ mc) (hsl9 : slots ≤ ms) (hd : decode cc pc = .ok (.invokestatic idx, 3)) (kk : z_V κ T N a cells slots (pc + 3) L (.int (zI r) :: S) st') : z_V κ T N a cells slots pc L S0 st := by
  obtain ⟨p, l, e, R, s, m, args, below, meth, c, Q, A, D, cA, nL⟩ := κ
  obtain ⟨hx, hb, hml, hn, hown, hts, hlk, hK, hA, hfr, hlo, hce, hsl, hX9, htr⟩ := hc
  intro H locs ls hP hS hl
  have hcm : cells + 0 ≤ R.cells := by omega
  have hsm : slots + 0 ≤ R.slots := by omega
  refine va_calli (va_runS (As := As) (rest := S) ⟨hx, hb, hml.trans hn, hown, hts⟩ (hM l htr D cA H.size) ⟨z_callB ho.1 hts hlk9 hlam hfr hlo, hts _ ho.2⟩ ⟨z_blind, z_pre (As := As) hP hS hK hX9 hA hap.1 hap.2⟩ rfl hAs (by show ls.size = n; rw [hl.1, hn]) hS0 (lv_room hW) hd ⟨hcm, hsm⟩) hS (fun q _ h => z_A1 hS hA hap.2 q h) (z_A1 hS hA hap.2) (fun x u t H1 locs1 ht _ hw9 hB _ _ hS1 => ?_)
  have hw9 : x = zI r := hw9
  subst hw9
  rw [ht] at hB
  exact kk H1 locs1 ls hB hS1 hl

theorem z_xcallSI {y : MethodName} {cc' : ByteArray} {n' np lam' idx : Nat} {ret : Option FieldType} {S0 : List Value} {r : Int} {st' : z_St} (As : List Value) (hc : z_C κ own cc n lam mc ms) (hap : z_AP κ a N) (ho : z_oS y cc' n' ret np) (hlk9 : Cond.methodLink own idx y ∈ z_tbl) (hM : ∀ l : Launch, l.stackTraces = false → z_MX 0 l y cc' n' ret lam' T N a As st (.inl (r, st'))) (hlam : lam' < lam) (hAs : As.length = np) (hS0 : S0 = As.reverse ++ S) (hW : (S.map fun v => v.category).sum ≤ 8) (hcl : cells ≤ mc) (hsl9 : slots ≤ ms) (hd : decode cc pc = .ok (.invokestatic idx, 3)) (kk : z_V κ T N a cells slots (pc + 3) L (.int (zI r) :: S) st') : z_V κ T N a cells slots pc L S0 st := by
  obtain ⟨p, l, e, R, s, m, args, below, meth, c, Q, A, D, cA, nL⟩ := κ
  obtain ⟨hx, hb, hml, hn, hown, hts, hlk, hK, hA, hfr, hlo, hce, hsl, hX9, htr⟩ := hc
  intro H locs ls hP hS hl
  have hcm : cells + 0 ≤ R.cells := by omega
  have hsm : slots + 0 ≤ R.slots := by omega
  refine vx_calli (vx_runS (As := As) (rest := S) ⟨hx, hb, hml.trans hn, hown, hts⟩ (hM l htr D cA H.size) ⟨z_callB ho.1 hts hlk9 hlam hfr hlo, hts _ ho.2⟩ ⟨z_blind, z_pre (As := As) hP hS hK hX9 hA hap.1 hap.2⟩ rfl hAs (by show ls.size = n; rw [hl.1, hn]) hS0 (lv_room hW) hd ⟨hcm, hsm⟩) hS (fun q _ h => z_A1 hS hA hap.2 q h) (z_A1 hS hA hap.2) (fun q _ h => z_A1 hS hA hap.2 q h) (fun E ce q9 u t H1 locs1 ht _ hpx => absurd hpx id) (fun x u t H1 locs1 ht _ hw9 hB _ _ hS1 => ?_)
  have hw9 : x = zI r := hw9
  subst hw9
  rw [ht] at hB
  exact kk H1 locs1 ls hB hS1 hl

theorem z_callVJ {y : MethodName} {cc' : ByteArray} {n' np lam' idx : Nat} {ret : Option FieldType} {ci k : Nat} {ks : List (Nat × Nat)} {S0 : List Value} {r : Int} {st' : z_St} (As : List Value) (hc : z_C κ own cc n lam mc ms) (hap : z_AP κ a N) (ho : z_oV y cc' n' ret np) (hlk9 : Cond.methodLink own idx y ∈ z_tbl) (hM : ∀ l : Launch, l.stackTraces = false → z_M 1 l y cc' n' ret lam' T N a (.ref (a k) :: As) st r st') (hlam : lam' < lam) (hT : T k = .inl (ci, ks)) (hk : k < N) (hC : ∃ q : vw_C, vwCl[ci]? = some q ∧ q.1 = y.cls) (hAs : As.length = np) (hS0 : S0 = As.reverse ++ .ref (a k) :: S) (hW : (S.map fun v => v.category).sum ≤ 8) (hcl : cells ≤ mc) (hsl9 : slots ≤ ms) (hd : decode cc pc = .ok (.invokevirtual idx, 3)) (kk : z_V κ T N a cells slots (pc + 3) L (.long (zJ r) :: S) st') : z_V κ T N a cells slots pc L S0 st := by
  obtain ⟨p, l, e, R, s, m, args, below, meth, c, Q, A, D, cA, nL⟩ := κ
  obtain ⟨hx, hb, hml, hn, hown, hts, hlk, hK, hA, hfr, hlo, hce, hsl, hX9, htr⟩ := hc
  intro H locs ls hP hS hl
  obtain ⟨q9, hc1, hc2⟩ := hC
  have hw := z_ws_get (cA := cA) (T := T) (a := a) (st := st) hk
  rw [hT] at hw
  have hcell := va_recv hK hP (ci := ci) (q0 := k) hc1 hw
  rw [hc2] at hcell
  have hcm : cells + 0 ≤ R.cells := by omega
  have hsm : slots + 0 ≤ R.slots := by omega
  refine va_calll (va_runV (C := y.cls) (As := As) (rest := S) ⟨hx, hb, hml.trans hn, hown, hts⟩ (hM l htr D cA H.size) ⟨z_callB ho.1 hts hlk9 hlam hfr hlo, hts _ ho.2.1, hts _ ho.2.2⟩ ⟨z_blind, hcell, z_pre (As := .ref (a k) :: As) hP hS hK hX9 hA hap.1 hap.2⟩ rfl hAs (by show ls.size = n; rw [hl.1, hn]) hS0 (lv_room hW) hd ⟨hcm, hsm⟩) hS (fun q _ h => z_A1 hS hA hap.2 q h) (z_A1 hS hA hap.2) (fun x u t H1 locs1 ht _ hw9 hB _ _ hS1 => ?_)
  have hw9 : x = zJ r := hw9
  subst hw9
  rw [ht] at hB
  exact kk H1 locs1 ls hB hS1 hl

theorem z_xcallVJ {y : MethodName} {cc' : ByteArray} {n' np lam' idx : Nat} {ret : Option FieldType} {ci k : Nat} {ks : List (Nat × Nat)} {S0 : List Value} {r : Int} {st' : z_St} (As : List Value) (hc : z_C κ own cc n lam mc ms) (hap : z_AP κ a N) (ho : z_oV y cc' n' ret np) (hlk9 : Cond.methodLink own idx y ∈ z_tbl) (hM : ∀ l : Launch, l.stackTraces = false → z_MX 1 l y cc' n' ret lam' T N a (.ref (a k) :: As) st (.inl (r, st'))) (hlam : lam' < lam) (hT : T k = .inl (ci, ks)) (hk : k < N) (hC : ∃ q : vw_C, vwCl[ci]? = some q ∧ q.1 = y.cls) (hAs : As.length = np) (hS0 : S0 = As.reverse ++ .ref (a k) :: S) (hW : (S.map fun v => v.category).sum ≤ 8) (hcl : cells ≤ mc) (hsl9 : slots ≤ ms) (hd : decode cc pc = .ok (.invokevirtual idx, 3)) (kk : z_V κ T N a cells slots (pc + 3) L (.long (zJ r) :: S) st') : z_V κ T N a cells slots pc L S0 st := by
  obtain ⟨p, l, e, R, s, m, args, below, meth, c, Q, A, D, cA, nL⟩ := κ
  obtain ⟨hx, hb, hml, hn, hown, hts, hlk, hK, hA, hfr, hlo, hce, hsl, hX9, htr⟩ := hc
  intro H locs ls hP hS hl
  obtain ⟨q9, hc1, hc2⟩ := hC
  have hw := z_ws_get (cA := cA) (T := T) (a := a) (st := st) hk
  rw [hT] at hw
  have hcell := va_recv hK hP (ci := ci) (q0 := k) hc1 hw
  rw [hc2] at hcell
  have hcm : cells + 0 ≤ R.cells := by omega
  have hsm : slots + 0 ≤ R.slots := by omega
  refine vx_calll (vx_runV (C := y.cls) (As := As) (rest := S) ⟨hx, hb, hml.trans hn, hown, hts⟩ (hM l htr D cA H.size) ⟨z_callB ho.1 hts hlk9 hlam hfr hlo, hts _ ho.2.1, hts _ ho.2.2⟩ ⟨z_blind, hcell, z_pre (As := .ref (a k) :: As) hP hS hK hX9 hA hap.1 hap.2⟩ rfl hAs (by show ls.size = n; rw [hl.1, hn]) hS0 (lv_room hW) hd ⟨hcm, hsm⟩) hS (fun q _ h => z_A1 hS hA hap.2 q h) (z_A1 hS hA hap.2) (fun q _ h => z_A1 hS hA hap.2 q h) (fun E ce q9 u t H1 locs1 ht _ hpx => absurd hpx id) (fun x u t H1 locs1 ht _ hw9 hB _ _ hS1 => ?_)
  have hw9 : x = zJ r := hw9
  subst hw9
  rw [ht] at hB
  exact kk H1 locs1 ls hB hS1 hl

theorem z_callSJ {y : MethodName} {cc' : ByteArray} {n' np lam' idx : Nat} {ret : Option FieldType} {S0 : List Value} {r : Int} {st' : z_St} (As : List Value) (hc : z_C κ own cc n lam mc ms) (hap : z_AP κ a N) (ho : z_oS y cc' n' ret np) (hlk9 : Cond.methodLink own idx y ∈ z_tbl) (hM : ∀ l : Launch, l.stackTraces = false → z_M 1 l y cc' n' ret lam' T N a As st r st') (hlam : lam' < lam) (hAs : As.length = np) (hS0 : S0 = As.reverse ++ S) (hW : (S.map fun v => v.category).sum ≤ 8) (hcl : cells ≤ mc) (hsl9 : slots ≤ ms) (hd : decode cc pc = .ok (.invokestatic idx, 3)) (kk : z_V κ T N a cells slots (pc + 3) L (.long (zJ r) :: S) st') : z_V κ T N a cells slots pc L S0 st := by
  obtain ⟨p, l, e, R, s, m, args, below, meth, c, Q, A, D, cA, nL⟩ := κ
  obtain ⟨hx, hb, hml, hn, hown, hts, hlk, hK, hA, hfr, hlo, hce, hsl, hX9, htr⟩ := hc
  intro H locs ls hP hS hl
  have hcm : cells + 0 ≤ R.cells := by omega
  have hsm : slots + 0 ≤ R.slots := by omega
  refine va_calll (va_runS (As := As) (rest := S) ⟨hx, hb, hml.trans hn, hown, hts⟩ (hM l htr D cA H.size) ⟨z_callB ho.1 hts hlk9 hlam hfr hlo, hts _ ho.2⟩ ⟨z_blind, z_pre (As := As) hP hS hK hX9 hA hap.1 hap.2⟩ rfl hAs (by show ls.size = n; rw [hl.1, hn]) hS0 (lv_room hW) hd ⟨hcm, hsm⟩) hS (fun q _ h => z_A1 hS hA hap.2 q h) (z_A1 hS hA hap.2) (fun x u t H1 locs1 ht _ hw9 hB _ _ hS1 => ?_)
  have hw9 : x = zJ r := hw9
  subst hw9
  rw [ht] at hB
  exact kk H1 locs1 ls hB hS1 hl

theorem z_xcallSJ {y : MethodName} {cc' : ByteArray} {n' np lam' idx : Nat} {ret : Option FieldType} {S0 : List Value} {r : Int} {st' : z_St} (As : List Value) (hc : z_C κ own cc n lam mc ms) (hap : z_AP κ a N) (ho : z_oS y cc' n' ret np) (hlk9 : Cond.methodLink own idx y ∈ z_tbl) (hM : ∀ l : Launch, l.stackTraces = false → z_MX 1 l y cc' n' ret lam' T N a As st (.inl (r, st'))) (hlam : lam' < lam) (hAs : As.length = np) (hS0 : S0 = As.reverse ++ S) (hW : (S.map fun v => v.category).sum ≤ 8) (hcl : cells ≤ mc) (hsl9 : slots ≤ ms) (hd : decode cc pc = .ok (.invokestatic idx, 3)) (kk : z_V κ T N a cells slots (pc + 3) L (.long (zJ r) :: S) st') : z_V κ T N a cells slots pc L S0 st := by
  obtain ⟨p, l, e, R, s, m, args, below, meth, c, Q, A, D, cA, nL⟩ := κ
  obtain ⟨hx, hb, hml, hn, hown, hts, hlk, hK, hA, hfr, hlo, hce, hsl, hX9, htr⟩ := hc
  intro H locs ls hP hS hl
  have hcm : cells + 0 ≤ R.cells := by omega
  have hsm : slots + 0 ≤ R.slots := by omega
  refine vx_calll (vx_runS (As := As) (rest := S) ⟨hx, hb, hml.trans hn, hown, hts⟩ (hM l htr D cA H.size) ⟨z_callB ho.1 hts hlk9 hlam hfr hlo, hts _ ho.2⟩ ⟨z_blind, z_pre (As := As) hP hS hK hX9 hA hap.1 hap.2⟩ rfl hAs (by show ls.size = n; rw [hl.1, hn]) hS0 (lv_room hW) hd ⟨hcm, hsm⟩) hS (fun q _ h => z_A1 hS hA hap.2 q h) (z_A1 hS hA hap.2) (fun q _ h => z_A1 hS hA hap.2 q h) (fun E ce q9 u t H1 locs1 ht _ hpx => absurd hpx id) (fun x u t H1 locs1 ht _ hw9 hB _ _ hS1 => ?_)
  have hw9 : x = zJ r := hw9
  subst hw9
  rw [ht] at hB
  exact kk H1 locs1 ls hB hS1 hl

theorem z_callVV {y : MethodName} {cc' : ByteArray} {n' np lam' idx : Nat} {ret : Option FieldType} {ci k : Nat} {ks : List (Nat × Nat)} {S0 : List Value} {r : Int} {st' : z_St} (As : List Value) (hc : z_C κ own cc n lam mc ms) (hap : z_AP κ a N) (ho : z_oV y cc' n' ret np) (hlk9 : Cond.methodLink own idx y ∈ z_tbl) (hM : ∀ l : Launch, l.stackTraces = false → z_M 2 l y cc' n' ret lam' T N a (.ref (a k) :: As) st r st') (hlam : lam' < lam) (hT : T k = .inl (ci, ks)) (hk : k < N) (hC : ∃ q : vw_C, vwCl[ci]? = some q ∧ q.1 = y.cls) (hAs : As.length = np) (hS0 : S0 = As.reverse ++ .ref (a k) :: S) (hW : (S.map fun v => v.category).sum ≤ 8) (hcl : cells ≤ mc) (hsl9 : slots ≤ ms) (hd : decode cc pc = .ok (.invokevirtual idx, 3)) (kk : z_V κ T N a cells slots (pc + 3) L S st') : z_V κ T N a cells slots pc L S0 st := by
  obtain ⟨p, l, e, R, s, m, args, below, meth, c, Q, A, D, cA, nL⟩ := κ
  obtain ⟨hx, hb, hml, hn, hown, hts, hlk, hK, hA, hfr, hlo, hce, hsl, hX9, htr⟩ := hc
  intro H locs ls hP hS hl
  obtain ⟨q9, hc1, hc2⟩ := hC
  have hw := z_ws_get (cA := cA) (T := T) (a := a) (st := st) hk
  rw [hT] at hw
  have hcell := va_recv hK hP (ci := ci) (q0 := k) hc1 hw
  rw [hc2] at hcell
  have hcm : cells + 0 ≤ R.cells := by omega
  have hsm : slots + 0 ≤ R.slots := by omega
  refine va_callv (va_runV (C := y.cls) (As := As) (rest := S) ⟨hx, hb, hml.trans hn, hown, hts⟩ (hM l htr D cA H.size) ⟨z_callB ho.1 hts hlk9 hlam hfr hlo, hts _ ho.2.1, hts _ ho.2.2⟩ ⟨z_blind, hcell, z_pre (As := .ref (a k) :: As) hP hS hK hX9 hA hap.1 hap.2⟩ rfl hAs (by show ls.size = n; rw [hl.1, hn]) hS0 (lv_room hW) hd ⟨hcm, hsm⟩) hS (fun q _ h => z_A1 hS hA hap.2 q h) (z_A1 hS hA hap.2) (fun u t H1 locs1 ht _ hw9 hB _ _ hS1 => ?_)
  rw [ht] at hB
  exact kk H1 locs1 ls hB hS1 hl

theorem z_xcallVV {y : MethodName} {cc' : ByteArray} {n' np lam' idx : Nat} {ret : Option FieldType} {ci k : Nat} {ks : List (Nat × Nat)} {S0 : List Value} {r : Int} {st' : z_St} (As : List Value) (hc : z_C κ own cc n lam mc ms) (hap : z_AP κ a N) (ho : z_oV y cc' n' ret np) (hlk9 : Cond.methodLink own idx y ∈ z_tbl) (hM : ∀ l : Launch, l.stackTraces = false → z_MX 2 l y cc' n' ret lam' T N a (.ref (a k) :: As) st (.inl (r, st'))) (hlam : lam' < lam) (hT : T k = .inl (ci, ks)) (hk : k < N) (hC : ∃ q : vw_C, vwCl[ci]? = some q ∧ q.1 = y.cls) (hAs : As.length = np) (hS0 : S0 = As.reverse ++ .ref (a k) :: S) (hW : (S.map fun v => v.category).sum ≤ 8) (hcl : cells ≤ mc) (hsl9 : slots ≤ ms) (hd : decode cc pc = .ok (.invokevirtual idx, 3)) (kk : z_V κ T N a cells slots (pc + 3) L S st') : z_V κ T N a cells slots pc L S0 st := by
  obtain ⟨p, l, e, R, s, m, args, below, meth, c, Q, A, D, cA, nL⟩ := κ
  obtain ⟨hx, hb, hml, hn, hown, hts, hlk, hK, hA, hfr, hlo, hce, hsl, hX9, htr⟩ := hc
  intro H locs ls hP hS hl
  obtain ⟨q9, hc1, hc2⟩ := hC
  have hw := z_ws_get (cA := cA) (T := T) (a := a) (st := st) hk
  rw [hT] at hw
  have hcell := va_recv hK hP (ci := ci) (q0 := k) hc1 hw
  rw [hc2] at hcell
  have hcm : cells + 0 ≤ R.cells := by omega
  have hsm : slots + 0 ≤ R.slots := by omega
  refine vx_callv (vx_runV (C := y.cls) (As := As) (rest := S) ⟨hx, hb, hml.trans hn, hown, hts⟩ (hM l htr D cA H.size) ⟨z_callB ho.1 hts hlk9 hlam hfr hlo, hts _ ho.2.1, hts _ ho.2.2⟩ ⟨z_blind, hcell, z_pre (As := .ref (a k) :: As) hP hS hK hX9 hA hap.1 hap.2⟩ rfl hAs (by show ls.size = n; rw [hl.1, hn]) hS0 (lv_room hW) hd ⟨hcm, hsm⟩) hS (fun q _ h => z_A1 hS hA hap.2 q h) (z_A1 hS hA hap.2) (fun q _ h => z_A1 hS hA hap.2 q h) (fun E ce q9 u t H1 locs1 ht _ hpx => absurd hpx id) (fun u t H1 locs1 ht _ hw9 hB _ _ hS1 => ?_)
  rw [ht] at hB
  exact kk H1 locs1 ls hB hS1 hl

theorem z_xthrV {y : MethodName} {cc' : ByteArray} {kd n' np lam' idx : Nat} {ret : Option FieldType} {ci k : Nat} {ks : List (Nat × Nat)} {S0 : List Value} {e9 : Nat} {st' : z_St} (As : List Value) (hc : z_C κ own cc n lam mc ms) (hap : z_AP κ a N) (ho : z_oV y cc' n' ret np) (hlk9 : Cond.methodLink own idx y ∈ z_tbl) (hM : ∀ l : Launch, l.stackTraces = false → z_MX kd l y cc' n' ret lam' T N a (.ref (a k) :: As) st (.inr (e9, st'))) (hlam : lam' < lam) (hT : T k = .inl (ci, ks)) (hk : k < N) (hC : ∃ q : vw_C, vwCl[ci]? = some q ∧ q.1 = y.cls) (hAs : As.length = np) (hS0 : S0 = As.reverse ++ .ref (a k) :: S) (hW : (S.map fun v => v.category).sum ≤ 8) (hcl : cells + 1 ≤ mc) (hsl9 : slots + 6 ≤ ms) (hd : decode cc pc = .ok (.invokevirtual idx, 3)) (kk : z_VX κ T N a (cells + 1) (slots + 6) pc L (z_en e9) st') : z_V κ T N a cells slots pc L S0 st := by
  obtain ⟨p, l, e, R, s, m, args, below, meth, c, Q, A, D, cA, nL⟩ := κ
  obtain ⟨hx, hb, hml, hn, hown, hts, hlk, hK, hA, hfr, hlo, hce, hsl, hX9, htr⟩ := hc
  intro H locs ls hP hS hl
  obtain ⟨q9, hc1, hc2⟩ := hC
  have hw := z_ws_get (cA := cA) (T := T) (a := a) (st := st) hk
  rw [hT] at hw
  have hcell := va_recv hK hP (ci := ci) (q0 := k) hc1 hw
  rw [hc2] at hcell
  have hcm : cells + 1 ≤ R.cells := by omega
  have hsm : slots + 6 ≤ R.slots := by omega
  refine vx_callv (S := Unit) (post := fun _ => False) (B := fun _ _ => True) (vx_runV (C := y.cls) (As := As) (rest := S) ⟨hx, hb, hml.trans hn, hown, hts⟩ (hM l htr D cA H.size) ⟨z_callB ho.1 hts hlk9 hlam hfr hlo, hts _ ho.2.1, hts _ ho.2.2⟩ ⟨z_blind, hcell, z_pre (As := .ref (a k) :: As) hP hS hK hX9 hA hap.1 hap.2⟩ rfl hAs (by show ls.size = n; rw [hl.1, hn]) hS0 (lv_room hW) hd ⟨hcm, hsm⟩) hS (fun q _ h => z_A1 hS hA hap.2 q h) (z_A1 hS hA hap.2) (fun q _ h => z_A1 hS hA hap.2 q h) (fun E ce q9 u t H1 locs1 ht _ hpx hbx _ _ hS1 h91 h92 h93 => ?_) (fun u t H1 locs1 ht _ hpost => absurd hpost id)
  obtain ⟨hE, hB⟩ := hbx
  subst hE
  rw [ht] at hB
  exact kk H1 locs1 ls S q9 ce hB hS1 hl h91 h92 h93

theorem z_callSV {y : MethodName} {cc' : ByteArray} {n' np lam' idx : Nat} {ret : Option FieldType} {S0 : List Value} {r : Int} {st' : z_St} (As : List Value) (hc : z_C κ own cc n lam mc ms) (hap : z_AP κ a N) (ho : z_oS y cc' n' ret np) (hlk9 : Cond.methodLink own idx y ∈ z_tbl) (hM : ∀ l : Launch, l.stackTraces = false → z_M 2 l y cc' n' ret lam' T N a As st r st') (hlam : lam' < lam) (hAs : As.length = np) (hS0 : S0 = As.reverse ++ S) (hW : (S.map fun v => v.category).sum ≤ 8) (hcl : cells ≤ mc) (hsl9 : slots ≤ ms) (hd : decode cc pc = .ok (.invokestatic idx, 3)) (kk : z_V κ T N a cells slots (pc + 3) L S st') : z_V κ T N a cells slots pc L S0 st := by
  obtain ⟨p, l, e, R, s, m, args, below, meth, c, Q, A, D, cA, nL⟩ := κ
  obtain ⟨hx, hb, hml, hn, hown, hts, hlk, hK, hA, hfr, hlo, hce, hsl, hX9, htr⟩ := hc
  intro H locs ls hP hS hl
  have hcm : cells + 0 ≤ R.cells := by omega
  have hsm : slots + 0 ≤ R.slots := by omega
  refine va_callv (va_runS (As := As) (rest := S) ⟨hx, hb, hml.trans hn, hown, hts⟩ (hM l htr D cA H.size) ⟨z_callB ho.1 hts hlk9 hlam hfr hlo, hts _ ho.2⟩ ⟨z_blind, z_pre (As := As) hP hS hK hX9 hA hap.1 hap.2⟩ rfl hAs (by show ls.size = n; rw [hl.1, hn]) hS0 (lv_room hW) hd ⟨hcm, hsm⟩) hS (fun q _ h => z_A1 hS hA hap.2 q h) (z_A1 hS hA hap.2) (fun u t H1 locs1 ht _ hw9 hB _ _ hS1 => ?_)
  rw [ht] at hB
  exact kk H1 locs1 ls hB hS1 hl

theorem z_xcallSV {y : MethodName} {cc' : ByteArray} {n' np lam' idx : Nat} {ret : Option FieldType} {S0 : List Value} {r : Int} {st' : z_St} (As : List Value) (hc : z_C κ own cc n lam mc ms) (hap : z_AP κ a N) (ho : z_oS y cc' n' ret np) (hlk9 : Cond.methodLink own idx y ∈ z_tbl) (hM : ∀ l : Launch, l.stackTraces = false → z_MX 2 l y cc' n' ret lam' T N a As st (.inl (r, st'))) (hlam : lam' < lam) (hAs : As.length = np) (hS0 : S0 = As.reverse ++ S) (hW : (S.map fun v => v.category).sum ≤ 8) (hcl : cells ≤ mc) (hsl9 : slots ≤ ms) (hd : decode cc pc = .ok (.invokestatic idx, 3)) (kk : z_V κ T N a cells slots (pc + 3) L S st') : z_V κ T N a cells slots pc L S0 st := by
  obtain ⟨p, l, e, R, s, m, args, below, meth, c, Q, A, D, cA, nL⟩ := κ
  obtain ⟨hx, hb, hml, hn, hown, hts, hlk, hK, hA, hfr, hlo, hce, hsl, hX9, htr⟩ := hc
  intro H locs ls hP hS hl
  have hcm : cells + 0 ≤ R.cells := by omega
  have hsm : slots + 0 ≤ R.slots := by omega
  refine vx_callv (vx_runS (As := As) (rest := S) ⟨hx, hb, hml.trans hn, hown, hts⟩ (hM l htr D cA H.size) ⟨z_callB ho.1 hts hlk9 hlam hfr hlo, hts _ ho.2⟩ ⟨z_blind, z_pre (As := As) hP hS hK hX9 hA hap.1 hap.2⟩ rfl hAs (by show ls.size = n; rw [hl.1, hn]) hS0 (lv_room hW) hd ⟨hcm, hsm⟩) hS (fun q _ h => z_A1 hS hA hap.2 q h) (z_A1 hS hA hap.2) (fun q _ h => z_A1 hS hA hap.2 q h) (fun E ce q9 u t H1 locs1 ht _ hpx => absurd hpx id) (fun u t H1 locs1 ht _ hw9 hB _ _ hS1 => ?_)
  rw [ht] at hB
  exact kk H1 locs1 ls hB hS1 hl

theorem z_xthrS {y : MethodName} {cc' : ByteArray} {kd n' np lam' idx : Nat} {ret : Option FieldType} {S0 : List Value} {e9 : Nat} {st' : z_St} (As : List Value) (hc : z_C κ own cc n lam mc ms) (hap : z_AP κ a N) (ho : z_oS y cc' n' ret np) (hlk9 : Cond.methodLink own idx y ∈ z_tbl) (hM : ∀ l : Launch, l.stackTraces = false → z_MX kd l y cc' n' ret lam' T N a As st (.inr (e9, st'))) (hlam : lam' < lam) (hAs : As.length = np) (hS0 : S0 = As.reverse ++ S) (hW : (S.map fun v => v.category).sum ≤ 8) (hcl : cells + 1 ≤ mc) (hsl9 : slots + 6 ≤ ms) (hd : decode cc pc = .ok (.invokestatic idx, 3)) (kk : z_VX κ T N a (cells + 1) (slots + 6) pc L (z_en e9) st') : z_V κ T N a cells slots pc L S0 st := by
  obtain ⟨p, l, e, R, s, m, args, below, meth, c, Q, A, D, cA, nL⟩ := κ
  obtain ⟨hx, hb, hml, hn, hown, hts, hlk, hK, hA, hfr, hlo, hce, hsl, hX9, htr⟩ := hc
  intro H locs ls hP hS hl
  have hcm : cells + 1 ≤ R.cells := by omega
  have hsm : slots + 6 ≤ R.slots := by omega
  refine vx_callv (S := Unit) (post := fun _ => False) (B := fun _ _ => True) (vx_runS (As := As) (rest := S) ⟨hx, hb, hml.trans hn, hown, hts⟩ (hM l htr D cA H.size) ⟨z_callB ho.1 hts hlk9 hlam hfr hlo, hts _ ho.2⟩ ⟨z_blind, z_pre (As := As) hP hS hK hX9 hA hap.1 hap.2⟩ rfl hAs (by show ls.size = n; rw [hl.1, hn]) hS0 (lv_room hW) hd ⟨hcm, hsm⟩) hS (fun q _ h => z_A1 hS hA hap.2 q h) (z_A1 hS hA hap.2) (fun q _ h => z_A1 hS hA hap.2 q h) (fun E ce q9 u t H1 locs1 ht _ hpx hbx _ _ hS1 h91 h92 h93 => ?_) (fun u t H1 locs1 ht _ hpost => absurd hpost id)
  obtain ⟨hE, hB⟩ := hbx
  subst hE
  rw [ht] at hB
  exact kk H1 locs1 ls S q9 ce hB hS1 hl h91 h92 h93

theorem z_callVA {y : MethodName} {cc' : ByteArray} {n' np lam' idx : Nat} {ret : Option FieldType} {ci k : Nat} {ks : List (Nat × Nat)} {S0 : List Value} {r : Int} {st' : z_St} (As : List Value) (hc : z_C κ own cc n lam mc ms) (hap : z_AP κ a N) (ho : z_oV y cc' n' ret np) (hlk9 : Cond.methodLink own idx y ∈ z_tbl) (hM : ∀ l : Launch, l.stackTraces = false → z_M 3 l y cc' n' ret lam' T N a (.ref (a k) :: As) st r st') (hlam : lam' < lam) (hT : T k = .inl (ci, ks)) (hk : k < N) (hC : ∃ q : vw_C, vwCl[ci]? = some q ∧ q.1 = y.cls) (hAs : As.length = np) (hS0 : S0 = As.reverse ++ .ref (a k) :: S) (hW : (S.map fun v => v.category).sum ≤ 8) (hcl : cells ≤ mc) (hsl9 : slots ≤ ms) (hd : decode cc pc = .ok (.invokevirtual idx, 3)) (kk : z_V κ T N a cells slots (pc + 3) L (.ref (a r.toNat) :: S) st') : z_V κ T N a cells slots pc L S0 st := by
  obtain ⟨p, l, e, R, s, m, args, below, meth, c, Q, A, D, cA, nL⟩ := κ
  obtain ⟨hx, hb, hml, hn, hown, hts, hlk, hK, hA, hfr, hlo, hce, hsl, hX9, htr⟩ := hc
  intro H locs ls hP hS hl
  obtain ⟨q9, hc1, hc2⟩ := hC
  have hw := z_ws_get (cA := cA) (T := T) (a := a) (st := st) hk
  rw [hT] at hw
  have hcell := va_recv hK hP (ci := ci) (q0 := k) hc1 hw
  rw [hc2] at hcell
  have hcm : cells + 0 ≤ R.cells := by omega
  have hsm : slots + 0 ≤ R.slots := by omega
  refine va_callr (va_runV (C := y.cls) (As := As) (rest := S) ⟨hx, hb, hml.trans hn, hown, hts⟩ (hM l htr D cA H.size) ⟨z_callB ho.1 hts hlk9 hlam hfr hlo, hts _ ho.2.1, hts _ ho.2.2⟩ ⟨z_blind, hcell, z_pre (As := .ref (a k) :: As) hP hS hK hX9 hA hap.1 hap.2⟩ rfl hAs (by show ls.size = n; rw [hl.1, hn]) hS0 (lv_room hW) hd ⟨hcm, hsm⟩) hS (fun q _ h => z_A1 hS hA hap.2 q h) (z_A1 hS hA hap.2) (fun u ra t H1 locs1 ht _ hw9 hB _ _ hS1 => ?_)
  obtain ⟨hra, hB⟩ := hB
  subst hra
  rw [ht] at hB
  exact kk H1 locs1 ls hB hS1 hl

theorem z_callSA {y : MethodName} {cc' : ByteArray} {n' np lam' idx : Nat} {ret : Option FieldType} {S0 : List Value} {r : Int} {st' : z_St} (As : List Value) (hc : z_C κ own cc n lam mc ms) (hap : z_AP κ a N) (ho : z_oS y cc' n' ret np) (hlk9 : Cond.methodLink own idx y ∈ z_tbl) (hM : ∀ l : Launch, l.stackTraces = false → z_M 3 l y cc' n' ret lam' T N a As st r st') (hlam : lam' < lam) (hAs : As.length = np) (hS0 : S0 = As.reverse ++ S) (hW : (S.map fun v => v.category).sum ≤ 8) (hcl : cells ≤ mc) (hsl9 : slots ≤ ms) (hd : decode cc pc = .ok (.invokestatic idx, 3)) (kk : z_V κ T N a cells slots (pc + 3) L (.ref (a r.toNat) :: S) st') : z_V κ T N a cells slots pc L S0 st := by
  obtain ⟨p, l, e, R, s, m, args, below, meth, c, Q, A, D, cA, nL⟩ := κ
  obtain ⟨hx, hb, hml, hn, hown, hts, hlk, hK, hA, hfr, hlo, hce, hsl, hX9, htr⟩ := hc
  intro H locs ls hP hS hl
  have hcm : cells + 0 ≤ R.cells := by omega
  have hsm : slots + 0 ≤ R.slots := by omega
  refine va_callr (va_runS (As := As) (rest := S) ⟨hx, hb, hml.trans hn, hown, hts⟩ (hM l htr D cA H.size) ⟨z_callB ho.1 hts hlk9 hlam hfr hlo, hts _ ho.2⟩ ⟨z_blind, z_pre (As := As) hP hS hK hX9 hA hap.1 hap.2⟩ rfl hAs (by show ls.size = n; rw [hl.1, hn]) hS0 (lv_room hW) hd ⟨hcm, hsm⟩) hS (fun q _ h => z_A1 hS hA hap.2 q h) (z_A1 hS hA hap.2) (fun u ra t H1 locs1 ht _ hw9 hB _ _ hS1 => ?_)
  obtain ⟨hra, hB⟩ := hB
  subst hra
  rw [ht] at hB
  exact kk H1 locs1 ls hB hS1 hl

theorem z_retI {v : Int} (hc : z_C κ own cc n lam mc ms) (he : z_E 0 κ (some .int) T N a v st) (hd : decode cc pc = .ok (.ireturn, 1)) : z_V κ T N a 0 0 pc L [.int (zI v)] st := by
  obtain ⟨p, l, e, R, s, m, args, below, meth, c, Q, A, D, cA, nL⟩ := κ
  obtain ⟨hx, hb, hml, hn, hown, hts, hlk, hK, hA, hfr, hlo, hce, hsl, hX9, htr⟩ := hc
  obtain ⟨hr, hQ⟩ := he
  intro H locs ls hP hS hl
  subst hQ
  exact W.iret hx hb hr (fun t ht hW => ⟨⟨zI v, (), rfl, rfl, by show va_P _ _ _ t.heap; rw [ht]; exact hP⟩, by rw [ht]; exact hS.1, fun q h1 h2 => by rw [ht]; exact hS.2.1 q h1 h2⟩) hS.2.2 hd hlk
theorem z_retXI {v : Int} {R0 : z_RR} (hc : z_C κ own cc n lam mc ms) (he : z_EX 0 κ (some .int) T N a R0) (hR0 : R0 = .inl (v, st)) (hd : decode cc pc = .ok (.ireturn, 1)) : z_V κ T N a 0 0 pc L [.int (zI v)] st := by
  subst hR0
  obtain ⟨p, l, e, R, s, m, args, below, meth, c, Q, A, D, cA, nL⟩ := κ
  obtain ⟨hx, hb, hml, hn, hown, hts, hlk, hK, hA, hfr, hlo, hce, hsl, hX9, htr⟩ := hc
  obtain ⟨hr, -, hQ⟩ := he
  intro H locs ls hP hS hl
  subst hQ
  exact vx_ret (W.iret hx hb hr (fun t ht hW => ⟨⟨zI v, (), rfl, rfl, by show va_P _ _ _ t.heap; rw [ht]; exact hP⟩, by rw [ht]; exact hS.1, fun q h1 h2 => by rw [ht]; exact hS.2.1 q h1 h2⟩) hS.2.2 hd hlk)

theorem z_retZ {v : Int} (hc : z_C κ own cc n lam mc ms) (he : z_E 0 κ (some .boolean) T N a v st) (hz : v = 0 ∨ v = 1) (hd : decode cc pc = .ok (.ireturn, 1)) : z_V κ T N a 0 0 pc L [.int (zI v)] st := by
  obtain ⟨p, l, e, R, s, m, args, below, meth, c, Q, A, D, cA, nL⟩ := κ
  obtain ⟨hx, hb, hml, hn, hown, hts, hlk, hK, hA, hfr, hlo, hce, hsl, hX9, htr⟩ := hc
  obtain ⟨hr, hQ⟩ := he
  intro H locs ls hP hS hl
  subst hQ
  exact W.zret hx hb hr (z_bool hz).1 (fun t ht hW => ⟨⟨zI v, (), rfl, rfl, by show va_P _ _ _ t.heap; rw [ht]; exact hP⟩, by rw [ht]; exact hS.1, fun q h1 h2 => by rw [ht]; exact hS.2.1 q h1 h2⟩) hS.2.2 hd hlk
theorem z_retXZ {v : Int} {R0 : z_RR} (hc : z_C κ own cc n lam mc ms) (he : z_EX 0 κ (some .boolean) T N a R0) (hR0 : R0 = .inl (v, st)) (hz : v = 0 ∨ v = 1) (hd : decode cc pc = .ok (.ireturn, 1)) : z_V κ T N a 0 0 pc L [.int (zI v)] st := by
  subst hR0
  obtain ⟨p, l, e, R, s, m, args, below, meth, c, Q, A, D, cA, nL⟩ := κ
  obtain ⟨hx, hb, hml, hn, hown, hts, hlk, hK, hA, hfr, hlo, hce, hsl, hX9, htr⟩ := hc
  obtain ⟨hr, -, hQ⟩ := he
  intro H locs ls hP hS hl
  subst hQ
  exact vx_ret (W.zret hx hb hr (z_bool hz).1 (fun t ht hW => ⟨⟨zI v, (), rfl, rfl, by show va_P _ _ _ t.heap; rw [ht]; exact hP⟩, by rw [ht]; exact hS.1, fun q h1 h2 => by rw [ht]; exact hS.2.1 q h1 h2⟩) hS.2.2 hd hlk)

theorem z_retJ {v : Int} (hc : z_C κ own cc n lam mc ms) (he : z_E 1 κ (some .long) T N a v st) (hd : decode cc pc = .ok (.lreturn, 1)) : z_V κ T N a 0 0 pc L [.long (zJ v)] st := by
  obtain ⟨p, l, e, R, s, m, args, below, meth, c, Q, A, D, cA, nL⟩ := κ
  obtain ⟨hx, hb, hml, hn, hown, hts, hlk, hK, hA, hfr, hlo, hce, hsl, hX9, htr⟩ := hc
  obtain ⟨hr, hQ⟩ := he
  intro H locs ls hP hS hl
  subst hQ
  exact W.lret hx hb hr (fun t ht hW => ⟨⟨zJ v, (), rfl, rfl, by show va_P _ _ _ t.heap; rw [ht]; exact hP⟩, by rw [ht]; exact hS.1, fun q h1 h2 => by rw [ht]; exact hS.2.1 q h1 h2⟩) hS.2.2 hd hlk
theorem z_retXJ {v : Int} {R0 : z_RR} (hc : z_C κ own cc n lam mc ms) (he : z_EX 1 κ (some .long) T N a R0) (hR0 : R0 = .inl (v, st)) (hd : decode cc pc = .ok (.lreturn, 1)) : z_V κ T N a 0 0 pc L [.long (zJ v)] st := by
  subst hR0
  obtain ⟨p, l, e, R, s, m, args, below, meth, c, Q, A, D, cA, nL⟩ := κ
  obtain ⟨hx, hb, hml, hn, hown, hts, hlk, hK, hA, hfr, hlo, hce, hsl, hX9, htr⟩ := hc
  obtain ⟨hr, -, hQ⟩ := he
  intro H locs ls hP hS hl
  subst hQ
  exact vx_ret (W.lret hx hb hr (fun t ht hW => ⟨⟨zJ v, (), rfl, rfl, by show va_P _ _ _ t.heap; rw [ht]; exact hP⟩, by rw [ht]; exact hS.1, fun q h1 h2 => by rw [ht]; exact hS.2.1 q h1 h2⟩) hS.2.2 hd hlk)

theorem z_retV {v : Int} (hc : z_C κ own cc n lam mc ms) (he : z_E 2 κ none T N a v st) (hd : decode cc pc = .ok (.return_, 1)) : z_V κ T N a 0 0 pc L [] st := by
  obtain ⟨p, l, e, R, s, m, args, below, meth, c, Q, A, D, cA, nL⟩ := κ
  obtain ⟨hx, hb, hml, hn, hown, hts, hlk, hK, hA, hfr, hlo, hce, hsl, hX9, htr⟩ := hc
  obtain ⟨hr, hQ⟩ := he
  intro H locs ls hP hS hl
  subst hQ
  exact W.vret hx hb hr (fun t ht hW => ⟨⟨(), rfl, trivial, by show va_P _ _ _ t.heap; rw [ht]; exact hP⟩, by rw [ht]; exact hS.1, fun q h1 h2 => by rw [ht]; exact hS.2.1 q h1 h2⟩) hS.2.2 hd hlk
theorem z_retXV {v : Int} {R0 : z_RR} (hc : z_C κ own cc n lam mc ms) (he : z_EX 2 κ none T N a R0) (hR0 : R0 = .inl (v, st)) (hd : decode cc pc = .ok (.return_, 1)) : z_V κ T N a 0 0 pc L [] st := by
  subst hR0
  obtain ⟨p, l, e, R, s, m, args, below, meth, c, Q, A, D, cA, nL⟩ := κ
  obtain ⟨hx, hb, hml, hn, hown, hts, hlk, hK, hA, hfr, hlo, hce, hsl, hX9, htr⟩ := hc
  obtain ⟨hr, -, hQ⟩ := he
  intro H locs ls hP hS hl
  subst hQ
  exact vx_ret (W.vret hx hb hr (fun t ht hW => ⟨⟨(), rfl, trivial, by show va_P _ _ _ t.heap; rw [ht]; exact hP⟩, by rw [ht]; exact hS.1, fun q h1 h2 => by rw [ht]; exact hS.2.1 q h1 h2⟩) hS.2.2 hd hlk)
theorem z_retA {v : Int} {k : Nat} {nm : String} (hc : z_C κ own cc n lam mc ms) (he : z_E 3 κ (some (.object nm)) T N a v st) (hk : v.toNat = k) (hd : decode cc pc = .ok (.areturn, 1)) : z_V κ T N a 0 0 pc L [.ref (a k)] st := by
  obtain ⟨p, l, e, R, s, m, args, below, meth, c, Q, A, D, cA, nL⟩ := κ
  obtain ⟨hx, hb, hml, hn, hown, hts, hlk, hK, hA, hfr, hlo, hce, hsl, hX9, htr⟩ := hc
  obtain ⟨hr, hQ⟩ := he
  intro H locs ls hP hS hl
  subst hQ hk
  exact W.aret hx hb hr (Or.inl ⟨_, rfl⟩) (Or.inr ⟨_, rfl⟩) (fun t ht hW => ⟨⟨(), _, rfl, trivial, rfl, by show va_P _ _ _ t.heap; rw [ht]; exact hP⟩, by rw [ht]; exact hS.1, fun q h1 h2 => by rw [ht]; exact hS.2.1 q h1 h2⟩) hS.2.2 hd hlk
theorem z_outX {kd : Nat} {rt : Option FieldType} {e9 : Nat} {R0 : z_RR} (hc : z_C κ own cc n lam mc ms) (he : z_EX kd κ rt T N a R0) (hR0 : R0 = .inr (e9, st)) : z_VX κ T N a 1 6 pc L (z_en e9) st := by
  subst hR0
  obtain ⟨p, l, e, R, s, m, args, below, meth, c, Q, A, D, cA, nL⟩ := κ
  obtain ⟨hx, hb, hml, hn, hown, hts, hlk, hK, hA, hfr, hlo, hce, hsl, hX9, htr⟩ := hc
  obtain ⟨hr, hno, hQ⟩ := he
  intro H locs ls S q9 ce hP hS hl h1 h2 h3
  subst hQ
  exact vx_out (fun x hx9 => (hno x hx9).elim) hlk h1 h2 h3 (fun t ht hW => ⟨(), trivial, ⟨rfl, by show va_P _ _ _ t.heap; rw [ht]; exact hP⟩, by rw [ht]; exact hS.1, fun q h1 h2 => by rw [ht]; exact hS.2.1 q h1 h2⟩) hS.2.2 (Nat.le_refl _) (Nat.le_refl _)
def z_nms : List String := ["java/lang/RuntimeException", "java/lang/Exception"]
def z_nb (e9 : Nat) : List Cond := Cond.castable (z_en e9) (z_en e9) :: z_dcl.map Cond.declares
/-- what the tables say where E is made and thrown -/
def z_oT (own : String) (e9 ik ic : Nat) : Prop := (∀ w ∈ Cond.classLink own ik (z_en e9) :: Cond.initialized (z_en e9) :: (vx_atS own ic (z_en e9) z_nms).filter goodWord, w ∈ z_tbl) ∧ (∀ w ∈ (vx_atS own ic (z_en e9) z_nms).filter (fun w => !goodWord w), w ∈ z_nb e9) ∧ (∀ w ∈ Cond.classLink own ik (z_en e9) :: Cond.initialized (z_en e9) :: vx_atS own ic (z_en e9) z_nms, vx_ot w = true) ∧ Bundle.fit (z_en e9) = true ∧ (∀ n ∈ z_nms, Bundle.fit n = true) ∧ e9 < 4

theorem z_throw {kd : Nat} {rt : Option FieldType} {e9 ik is ic : Nat} {R0 : z_RR} {text : String} (hc : z_C κ own cc n lam (z_mc R0) (z_ms R0)) (he : z_EX kd κ rt T N a R0) (hR0 : R0 = .inr (e9, st)) (hap : z_AP κ a N) (hT : z_oT own e9 ik ic) (hstr : (own, is, text) ∈ z_strs) (hlam : 6 ≤ lam) (hW : (S.map fun v => v.category).sum ≤ 8)
    (d0 : decode cc pc = .ok (.new ik, 3)) (d3 : decode cc (pc + 3) = .ok (.dup, 1)) (d4 : decode cc (pc + 4) = .ok (.ldc is, 2)) (d6 : decode cc (pc + 6) = .ok (.invokespecial ic, 3)) (d9 : decode cc (pc + 9) = .ok (.athrow, 1)) : z_V κ T N a 0 0 pc L S st := by
  subst hR0
  obtain ⟨p, l, e, R, s, m, args, below, meth, c, Q, A, D, cA, nL⟩ := κ
  obtain ⟨hx, hb, hml, hn, hown, hts, hlk, hK, hA, hfr, hlo, hce, hsl, hX9, htr⟩ := hc
  obtain ⟨hr, hno, hQ⟩ := he
  intro H locs ls hP hS hl
  subst hQ
  obtain ⟨t1, t2, t3, t4, t5, t6⟩ := hT
  obtain ⟨x1, x2, x3, x4, x5, x6⟩ := hX9
  obtain ⟨sa, h6⟩ := x5 _ hstr
  have hce : 1 ≤ R.cells := hce
  have hsl : 6 ≤ R.slots := hsl
  refine vx_throwS (A := A) (names := z_nms) (sa := sa) (text := text) hx hb htr hown t4 t5 (hts _ (t1 _ List.mem_cons_self)) (hts _ (t1 _ (List.mem_cons_of_mem _ List.mem_cons_self))) h6 (vx_hat (B := z_nb e9) (fun w hw => hts _ (t1 _ (List.mem_cons_of_mem _ (List.mem_cons_of_mem _ hw)))) t2 (fun w hw => by
    rcases List.mem_cons.mp hw with e | hw
    · rw [e]
      have h9 := x3 e9 t6
      unfold va_Nw at h9
      exact va_tabs (A := #[]) rfl rfl h9
    · obtain ⟨y, hy, rfl⟩ := List.mem_map.mp hw
      have h9 := x6 y hy
      unfold va_Nw at h9
      exact va_tabs (A := #[]) rfl rfl h9)) t3 x1 x2 hS (by rw [hl.1, hml]) d0 d3 d4 d6 d9 (fun x hx9 => (hno x hx9).elim) (by show 5 < R.frames; omega) (by show _ + (13 * 3 + 43) ≤ R.locals; omega) (by omega) (by omega) hlk ?_ hS.2.2 (Nat.le_refl _) (Nat.le_refl _)
  intro t hal hsz hq
  have hsz0 : s.heap.size ≤ H.size := hS.1
  exact ⟨(), trivial, ⟨rfl, hP.kept (fun k q hk => hq q.1 (hP k q hk).lt)⟩, Nat.le_trans hsz0 hsz, fun q h1 h2 => by rw [hq q (Nat.lt_of_lt_of_le h1 hsz0)]; exact hS.2.1 q h1 h2⟩

theorem z_throwW {kd : Nat} {rt : Option FieldType} {e9 ik is ic : Nat} {R0 : z_RR} {text : String} (hc : z_C κ own cc n lam (z_mc R0) (z_ms R0)) (he : z_EX kd κ rt T N a R0) (hR0 : R0 = .inr (e9, st)) (hap : z_AP κ a N) (hT : z_oT own e9 ik ic) (hstr : (own, is, text) ∈ z_strs) (hlam : 6 ≤ lam) (hW : (S.map fun v => v.category).sum ≤ 8)
    (d0 : decode cc pc = .ok (.new ik, 3)) (d3 : decode cc (pc + 3) = .ok (.dup, 1)) (d4 : decode cc (pc + 4) = .ok (.ldc_w is, 3)) (d6 : decode cc (pc + 7) = .ok (.invokespecial ic, 3)) (d9 : decode cc (pc + 10) = .ok (.athrow, 1)) : z_V κ T N a 0 0 pc L S st := by
  subst hR0
  obtain ⟨p, l, e, R, s, m, args, below, meth, c, Q, A, D, cA, nL⟩ := κ
  obtain ⟨hx, hb, hml, hn, hown, hts, hlk, hK, hA, hfr, hlo, hce, hsl, hX9, htr⟩ := hc
  obtain ⟨hr, hno, hQ⟩ := he
  intro H locs ls hP hS hl
  subst hQ
  obtain ⟨t1, t2, t3, t4, t5, t6⟩ := hT
  obtain ⟨x1, x2, x3, x4, x5, x6⟩ := hX9
  obtain ⟨sa, h6⟩ := x5 _ hstr
  have hce : 1 ≤ R.cells := hce
  have hsl : 6 ≤ R.slots := hsl
  refine vx_throwSW (A := A) (names := z_nms) (sa := sa) (text := text) hx hb htr hown t4 t5 (hts _ (t1 _ List.mem_cons_self)) (hts _ (t1 _ (List.mem_cons_of_mem _ List.mem_cons_self))) h6 (vx_hat (B := z_nb e9) (fun w hw => hts _ (t1 _ (List.mem_cons_of_mem _ (List.mem_cons_of_mem _ hw)))) t2 (fun w hw => by
    rcases List.mem_cons.mp hw with e | hw
    · rw [e]
      have h9 := x3 e9 t6
      unfold va_Nw at h9
      exact va_tabs (A := #[]) rfl rfl h9
    · obtain ⟨y, hy, rfl⟩ := List.mem_map.mp hw
      have h9 := x6 y hy
      unfold va_Nw at h9
      exact va_tabs (A := #[]) rfl rfl h9)) t3 x1 x2 hS (by rw [hl.1, hml]) d0 d3 d4 d6 d9 (fun x hx9 => (hno x hx9).elim) (by show 5 < R.frames; omega) (by show _ + (13 * 3 + 43) ≤ R.locals; omega) (by omega) (by omega) hlk ?_ hS.2.2 (Nat.le_refl _) (Nat.le_refl _)
  intro t hal hsz hq
  have hsz0 : s.heap.size ≤ H.size := hS.1
  exact ⟨(), trivial, ⟨rfl, hP.kept (fun k q hk => hq q.1 (hP k q hk).lt)⟩, Nat.le_trans hsz0 hsz, fun q h1 h2 => by rw [hq q (Nat.lt_of_lt_of_le h1 hsz0)]; exact hS.2.1 q h1 h2⟩

end
theorem z_metF {l : Launch} {y : MethodName} {ws ws' : List Cond} {rm : Room} {Pc : Array Value → State → Prop} {Qc : Array Value → State → Outcome → State → Prop} {mc ms : Nat} {free : Addr → Prop} {cc : ByteArray} {maxL : Nat} {ret : Option FieldType}
    (hy : plainFor y = true) (hw : ws = Cond.code y cc maxL ret :: ws')
    (body : ∀ p e s m args below meth c s₁, BodyLoose p l y (headSpec ws rm) cc maxL ret e s m args below meth c s₁ → c.maxLocals = maxL → Pc args s →
      W p l e (headSpec ws rm).room s m args below meth c s.heap [] 0 0 (MQ below Qc args s mc ms free) (entryFrame m args maxL)) : Met l y ws rm Pc Qc mc ms free := by
  refine MetFree.of_bodySF (code := cc) (maxLocals := maxL) (ret := ret) hy ?_ ?_
  · intro args s m h hn
    obtain ⟨meth, c, h1, h2, h3, h4, h5, h6, -, -⟩ := Cond.code_spec hn (atoms_spec (ws := ws) h _ (by rw [hw]; exact List.mem_cons_self))
    exact ⟨meth, c, h1, h2, h3, h4, h5, h6⟩
  · intro p e s m args below meth c s₁ B hml hP _
    have hh0 : s₁.heap = s.heap := by rw [B.state]; rfl
    obtain ⟨t, a1, o, b1, b2, b3⟩ := body p e s m args below meth c s₁ B hml hP s₁ hh0 (Stand.of_body B)
    exact ⟨t, o, a1, b1, b2, ⟨b3.1, b3.2⟩⟩
theorem z_of {l : Launch} {kd : Nat} {y : MethodName} {cc : ByteArray} {n lam : Nat} {ret : Option FieldType} {T : Nat → z_Ty} {N : Nat} {a : Nat → Nat} {As : List Value} {st : z_St} {r : Int} {st' : z_St} (htr : l.stackTraces = false) (hy : plainFor y = true) (hAs : (lg_sl As).length ≤ n)
    (body : ∀ κ : zK, z_C κ y.cls cc n lam 0 0 → z_AP κ a N → z_E kd κ ret T N a r st' → z_V κ T N a 0 0 0 (lv_args 0 As) [] st) : z_M kd l y cc n ret lam T N a As st r st' := by
  intro D cA sz
  refine z_metF (cc := cc) (maxL := n) (ret := ret) hy rfl ?_
  intro p e s m args below meth c s₁ B hml hv
  obtain ⟨rfl, hsz, hP, hK, hX9, hinj⟩ := hv
  have hts := atoms_spec (ws := z_w y cc n ret) B.pre
  have hl := lv_entry As hAs
  rw [lg_entry_eq]
  subst hsz
  exact body (p, l, e, _, s, m, As.toArray, below, meth, c, _, z_A a N s.heap.size, D, cA, n)
    ⟨B.exec, B.bytes, hml, rfl, findClass_of_methodNamed B.named, fun w hw => hts w (List.mem_cons_of_mem _ hw), B.notSynchronized, hK, fun q h => Or.inr h, Nat.le_refl _, Nat.le_refl _, Nat.le_refl _, Nat.le_refl _, hX9, htr⟩
    ⟨hinj, fun k h => Or.inl ⟨k, h, rfl⟩⟩ ⟨B.returns, rfl⟩ s.heap [] _ hP va_S.rf hl

theorem z_ofX {l : Launch} {kd : Nat} {y : MethodName} {cc : ByteArray} {n lam : Nat} {ret : Option FieldType} {T : Nat → z_Ty} {N : Nat} {a : Nat → Nat} {As : List Value} {st : z_St} {R0 : z_RR} (htr : l.stackTraces = false) (hy : plainName y.cls = true) (hAs : (lg_sl As).length ≤ n)
    (body : ∀ κ : zK, z_C κ y.cls cc n lam (z_mc R0) (z_ms R0) → z_AP κ a N → z_EX kd κ ret T N a R0 → z_V κ T N a 0 0 0 (lv_args 0 As) [] st) : z_MX kd l y cc n ret lam T N a As st R0 := by
  intro D cA sz
  refine vx_ofW (cc := cc) (maxL := n) (ret := ret) hy rfl ?_
  intro p e s m args below meth c s₁ B hml hno hv
  obtain ⟨rfl, hsz, hP, hK, hX9, hinj⟩ := hv
  have hts := atoms_spec (ws := z_w y cc n ret) B.pre
  have hl := lv_entry As hAs
  rw [lg_entry_eq]
  subst hsz
  exact body (p, l, e, _, s, m, As.toArray, below, meth, c, _, z_A a N s.heap.size, D, cA, n)
    ⟨B.exec, B.bytes, hml, rfl, findClass_of_methodNamed B.named, fun w hw => hts w (List.mem_cons_of_mem _ hw), B.notSynchronized, hK, fun q h => Or.inr h, Nat.le_refl _, Nat.le_refl _, Nat.le_refl _, Nat.le_refl _, hX9, htr⟩
    ⟨hinj, fun k h => Or.inl ⟨k, h, rfl⟩⟩ ⟨B.returns, hno, rfl⟩ s.heap [] _ hP va_S.rf hl

