-- METHODS WITH HANDLERS (laid by wip/gen/zlaw.py)
def z_wH (y : MethodName) (cc : ByteArray) (n : Nat) (ret : Option FieldType) (hh : List (Nat × Nat × Nat × Nat)) : List Cond := .codeWith y cc n ret hh :: z_tbl
theorem z_gdH {own : String} {idx : Nat} {y : MethodName} {cc : ByteArray} {n : Nat} {ret : Option FieldType} {hh : List (Nat × Nat × Nat × Nat)} (h : Cond.codeWith y cc n ret hh ∈ z_tbl) (h1 : Cond.methodLink own idx y ∈ z_tbl) (h2 : Cond.static y ∈ z_tbl) (h3 : Cond.initialized y.cls ∈ z_tbl) : GoodIn z_tbl (va_wsS own idx y (z_wH y cc n ret hh)) := fun w hw => by
  unfold va_wsS z_wH at hw
  have h9 : w ∈ z_tbl := by
    rcases List.mem_append.mp hw with h' | h'
    · rcases List.mem_cons.mp h' with e | h'
      · rw [e]; exact h1
      · rcases List.mem_cons.mp h' with e | h'
        · rw [e]; exact h2
        · rcases List.mem_cons.mp h' with e | h'
          · rw [e]; exact h3
          · cases h'
    · rcases List.mem_cons.mp h' with e | h'
      · rw [e]; exact h
      · exact h'
  exact ⟨h9, z_good h9⟩
def z_MW (l : Launch) (y : MethodName) (cc : ByteArray) (n : Nat) (hh : List (Nat × Nat × Nat × Nat)) (lam : Nat) (T : Nat → z_Ty) (N : Nat) (a : Nat → Nat) (As : List Value) (st : z_St) (r : Int) (st' : z_St) : Prop :=
  ∀ (D : va_G) (cA : Nat → ClassId) (sz : Nat), Met l y (z_wH y cc n (some .int) hh) (z_rm lam 1 6) (z_Pc T N a D cA st As sz) (z_Q 0 T N a D cA r st' (z_A a N sz)) 1 6 (z_A a N sz)
def z_EW (κ : zK) (hh : List (Nat × Nat × Nat × Nat)) (T : Nat → z_Ty) (N : Nat) (a : Nat → Nat) (r : Int) (st' : z_St) : Prop := match κ with
  | (_, _, _, _, s, _, args, below, meth, c, Q, A, D, cA, _) => meth.sig.returnType = some .int ∧ c.exceptionTable.toList = tableOf hh ∧ Q = MQ below (z_Q 0 T N a D cA r st' A) args s 1 6 A
theorem z_ofW {l : Launch} {y : MethodName} {cc : ByteArray} {n lam : Nat} {hh : List (Nat × Nat × Nat × Nat)} {T : Nat → z_Ty} {N : Nat} {a : Nat → Nat} {As : List Value} {st : z_St} {r : Int} {st' : z_St} (htr : l.stackTraces = false) (hy : plainName y.cls = true) (hAs : (lg_sl As).length ≤ n) (hcd : Cond.codeWith y cc n (some .int) hh ∈ z_tbl)
    (body : ∀ κ : zK, z_C κ y.cls cc n lam 1 6 → z_AP κ a N → z_EW κ hh T N a r st' → z_V κ T N a 0 0 0 (lv_args 0 As) [] st) : z_MW l y cc n hh lam T N a As st r st' := by
  intro D cA sz
  refine MetFree.of_bodyS (code := cc) (maxLocals := n) (ret := some .int) hy ?_ ?_
  · intro args s m h hn
    obtain ⟨m9, meth, c, hn9, h1, h2, h3, h4, -, h5, h6, -⟩ := Cond.codeWith_spec (atoms_spec (ws := z_wH y cc n (some .int) hh) h _ List.mem_cons_self)
    cases hn.symm.trans hn9
    exact ⟨meth, c, h1, h2, h3, h4, h5, h6⟩
  · intro p e s m args below meth c s₁ B hml hv _
    have hh0 : s₁.heap = s.heap := by rw [B.state]; rfl
    have hts := atoms_spec (ws := z_wH y cc n (some .int) hh) B.pre
    have htab := vx_table (x := y) B (hts _ List.mem_cons_self)
    obtain ⟨rfl, hsz, hP, hK, hX9, hinj⟩ := hv
    have hl := lv_entry As hAs
    subst hsz
    have K : W p l e (headSpec (z_wH y cc n (some .int) hh) (z_rm lam 1 6)).room s m As.toArray below meth c s.heap [] 0 0 (MQ below (z_Q 0 T N a D cA r st' (z_A a N s.heap.size)) As.toArray s 1 6 (z_A a N s.heap.size)) (entryFrame m As.toArray n) := by
      rw [lg_entry_eq]
      exact body (p, l, e, _, s, m, As.toArray, below, meth, c, _, z_A a N s.heap.size, D, cA, n)
        ⟨B.exec, B.bytes, hml, rfl, findClass_of_methodNamed B.named, fun w hw => hts w (List.mem_cons_of_mem _ hw), B.notSynchronized, hK, fun q h => Or.inr h, Nat.le_refl _, Nat.le_refl _, Nat.le_refl _, Nat.le_refl _, hX9, htr⟩
        ⟨hinj, fun k h => Or.inl ⟨k, h, rfl⟩⟩ ⟨B.returns, htab, rfl⟩ s.heap [] _ hP va_S.rf hl
    obtain ⟨t, a1, o, b1, b2, b3⟩ := K s₁ hh0 (Stand.of_body B)
    exact ⟨t, o, a1, b1, b2, ⟨b3.1, b3.2⟩⟩
/-- the pure text of a wrapper: what was returned goes to the row out (the cell 199); what was thrown is told by its handler's number -/
def z_tr (hs : List Nat) (R : Option z_RR) : Option (Int × z_St) := match R with
  | none => none
  | some (.inl (v, s)) => some (0, z_up s 199 0 v)
  | some (.inr (e, s)) => if e = 1 ∧ hs[0]? = some 1 ∨ e = 2 ∧ hs[0]? = some 2 ∨ e = 3 ∧ hs[0]? = some 3 then some (1, s) else if hs[1]? = some e then some (2, s) else if hs[2]? = some e then some (3, s) else none
section
variable {κ : zK} {own : String} {cc : ByteArray} {n lam mc ms : Nat} {T : Nat → z_Ty} {N : Nat} {a : Nat → Nat} {cells slots pc : Nat} {L : List (Nat × Value)} {S : List Value} {st : z_St}
theorem z_retW {v : Int} {hh : List (Nat × Nat × Nat × Nat)} (hc : z_C κ own cc n lam mc ms) (he : z_EW κ hh T N a v st) (hd : decode cc pc = .ok (.ireturn, 1)) : z_V κ T N a 1 6 pc L [.int (zI v)] st := by
  obtain ⟨p, l, e, R, s, m, args, below, meth, c, Q, A, D, cA, nL⟩ := κ
  obtain ⟨hx, hb, hml, hn, hown, hts, hlk, hK, hA, hfr, hlo, hce, hsl, hX9, htr⟩ := hc
  obtain ⟨hr, -, hQ⟩ := he
  intro H locs ls hP hS hl
  subst hQ
  exact W.iret hx hb hr (fun t ht hW => ⟨⟨zI v, (), rfl, rfl, by show va_P _ _ _ t.heap; rw [ht]; exact hP⟩, by rw [ht]; exact hS.1, fun q h1 h2 => by rw [ht]; exact hS.2.1 q h1 h2⟩) hS.2.2 hd hlk
/-- a handler takes it; those ahead don't -/
theorem z_catch {hh : List (Nat × Nat × Nat × Nat)} {v : Int} {st9 : z_St} {e9 : Nat} (pre : List ExceptionTableEntry) (x : ExceptionTableEntry) (suf : List ExceptionTableEntry) (hc : z_C κ own cc n lam mc ms) (he : z_EW κ hh T N a v st9) (hsplit : tableOf hh = pre ++ x :: suf) (h9 : e9 < 4) (hpass : ∀ z ∈ pre, ∃ j, j < 4 ∧ z.catchType ≠ 0 ∧ Cond.classLink own z.catchType (z_en j) ∈ z_tbl ∧ z_en e9 ≠ z_en j) (hx9 : covers x pc = true) (h0 : x.catchType ≠ 0) (hlink : Cond.classLink own x.catchType (z_en e9) ∈ z_tbl)
    (kk : ∀ q : Nat, z_V κ T N a cells slots x.handlerPc L [.ref q] st) : z_VX κ T N a cells slots pc L (z_en e9) st := by
  obtain ⟨p, l, e, R, s, m, args, below, meth, c, Q, A, D, cA, nL⟩ := κ
  obtain ⟨hx, hb, hml, hn, hown, hts, hlk, hK, hA, hfr, hlo, hce, hsl, hX9, htr⟩ := hc
  obtain ⟨hr, htab, hQ⟩ := he
  obtain ⟨x1, x2, x3, x4, x5, x6⟩ := hX9
  intro H locs ls S q9 ce hP hS hl h1 h2 h3
  refine vx_catch hown pre x suf (htab.trans hsplit) (fun z hz => ?_) hx9 h0 (hts _ hlink) ?_ h1 h2 h3 (kk q9 H locs ls hP hS hl)
  · obtain ⟨j, j1, j2, j3, j4⟩ := hpass z hz
    exact Or.inr ⟨j2, z_en j, hts _ j3, x4 e9 j h9 j1 j4⟩
  · have h8 := x3 e9 h9
    unfold va_Nw at h8
    exact va_tabs (A := #[]) rfl rfl h8
theorem z_callW {y : MethodName} {cc' : ByteArray} {n' np lam' idx : Nat} {hh : List (Nat × Nat × Nat × Nat)} {S0 : List Value} {r : Int} {st' : z_St} (As : List Value) (hc : z_C κ own cc n lam mc ms) (hap : z_AP κ a N) (hcd : Cond.codeWith y cc' n' (some .int) hh ∈ z_tbl) (hlk9 : Cond.methodLink own idx y ∈ z_tbl) (hst9 : Cond.static y ∈ z_tbl) (hin9 : Cond.initialized y.cls ∈ z_tbl) (hnp : y.cls ≠ "java/lang/invoke/MethodHandle" ∧ y.cls ≠ "java/lang/invoke/VarHandle" ∧ (parseMethodDescriptor y.desc).map (fun d => d.parameters.length) = some np) (hn41 : n' ≤ 41) (hM : ∀ l : Launch, l.stackTraces = false → z_MW l y cc' n' hh lam' T N a As st r st') (hlam : lam' < lam) (hAs : As.length = np) (hS0 : S0 = As.reverse ++ S) (hW : (S.map fun v => v.category).sum ≤ 8) (hcl : cells + 1 ≤ mc) (hsl9 : slots + 6 ≤ ms) (hd : decode cc pc = .ok (.invokestatic idx, 3)) (kk : z_V κ T N a (cells + 1) (slots + 6) (pc + 3) L (.int (zI r) :: S) st') : z_V κ T N a cells slots pc L S0 st := by
  obtain ⟨p, l, e, R, s, m, args, below, meth, c, Q, A, D, cA, nL⟩ := κ
  obtain ⟨hx, hb, hml, hn, hown, hts, hlk, hK, hA, hfr, hlo, hce, hsl, hX9, htr⟩ := hc
  intro H locs ls hP hS hl
  have hcm : cells + 1 ≤ R.cells := by omega
  have hsm : slots + 6 ≤ R.slots := by omega
  refine va_calli (vx_runSW (As := As) (rest := S) ⟨hx, hb, hml.trans hn, hown, hts⟩ (hM l htr D cA H.size) (vx_cwSW np hts (z_gdH hcd hlk9 hst9 hin9) rfl rfl rfl hnp ⟨by show lam' + 1 ≤ _; omega, by show 8 + (n' + 11) + 60 * lam' ≤ _; omega⟩) ⟨z_blind, z_pre (As := As) hP hS hK hX9 hA hap.1 hap.2⟩ rfl hAs (by show ls.size = n; rw [hl.1, hn]) hS0 (lv_room hW) hd ⟨hcm, hsm⟩) hS (fun q _ h => z_A1 hS hA hap.2 q h) (z_A1 hS hA hap.2) (fun x u t H1 locs1 ht _ hw9 hB _ _ hS1 => ?_)
  have hw9 : x = zI r := hw9
  subst hw9
  rw [ht] at hB
  exact kk H1 locs1 ls hB hS1 hl
end
