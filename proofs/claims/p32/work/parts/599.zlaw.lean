-- METHODS OF THE LAW: mu units of room (a unit: a cell, six slots)
def z_wH (y : MethodName) (cc : ByteArray) (n : Nat) (ret : Option FieldType) (hh : List (Nat × Nat × Nat × Nat)) : List Cond := .codeWith y cc n ret hh :: z_tbl
theorem z_gdH {own : String} {idx : Nat} {y : MethodName} {cc : ByteArray} {n : Nat} {ret : Option FieldType} {hh : List (Nat × Nat × Nat × Nat)} (h : Cond.codeWith y cc n ret hh ∈ z_tbl) (h1 : Cond.methodLink own idx y ∈ z_tbl) (h2 : Cond.static y ∈ z_tbl) (h3 : Cond.initialized y.cls ∈ z_tbl) : GoodIn z_tbl (va_wsS own idx y (z_wH y cc n ret hh)) := fun w hw => by
  unfold va_wsS z_wH at hw
  have h9 : w ∈ z_tbl := by
    rcases List.mem_append.mp hw with h' | h'
    · rcases List.mem_cons.mp h' with e | h'
      · rw [e]; exact h1
      · rcases List.mem_cons.mp h' with e | h'
        · rw [e]; exact h2
        · rcases List.mem_cons.mp h' with e | h'
          · rw [e]; exact h3
          · cases h'
    · rcases List.mem_cons.mp h' with e | h'
      · rw [e]; exact h
      · exact h'
  exact ⟨h9, z_good h9⟩
def z_MU (kd mu : Nat) (l : Launch) (y : MethodName) (ws : List Cond) (lam : Nat) (T : Nat → z_Ty) (N : Nat) (a : Nat → Nat) (As : List Value) (st : z_St) (r : Int) (st' : z_St) : Prop :=
  ∀ (D : va_G) (cA : Nat → ClassId) (sz : Nat), Met l y ws (z_rm lam mu (6 * mu)) (z_Pc T N a D cA st As sz) (z_Q kd T N a D cA r st' (z_A a N sz)) mu (6 * mu) (z_A a N sz)
def z_EU (kd mu : Nat) (κ : zK) (rt : Option FieldType) (T : Nat → z_Ty) (N : Nat) (a : Nat → Nat) (r : Int) (st' : z_St) : Prop := match κ with
  | (_, _, _, _, s, _, args, below, meth, _, Q, A, D, cA, _) => meth.sig.returnType = rt ∧ Q = MQ below (z_Q kd T N a D cA r st' A) args s mu (6 * mu) A
def z_EH (kd mu : Nat) (κ : zK) (hh : List (Nat × Nat × Nat × Nat)) (rt : Option FieldType) (T : Nat → z_Ty) (N : Nat) (a : Nat → Nat) (r : Int) (st' : z_St) : Prop := match κ with
  | (_, _, _, _, s, _, args, below, meth, c, Q, A, D, cA, _) => meth.sig.returnType = rt ∧ c.exceptionTable.toList = tableOf hh ∧ Q = MQ below (z_Q kd T N a D cA r st' A) args s mu (6 * mu) A
theorem z_EH.u {kd mu : Nat} {κ : zK} {hh : List (Nat × Nat × Nat × Nat)} {rt : Option FieldType} {T : Nat → z_Ty} {N : Nat} {a : Nat → Nat} {r : Int} {st' : z_St} (h : z_EH kd mu κ hh rt T N a r st') : z_EU kd mu κ rt T N a r st' := by
  obtain ⟨p, l, e, R, s, m, args, below, meth, c, Q, A, D, cA, nL⟩ := κ
  exact ⟨h.1, h.2.2⟩
/-- the script lies at b: its n numbers are f 0, f 1, .. -/
def z_SX (κ : zK) (b n : Nat) (f : Int → Int) : Prop := match κ with
  | (_, _, _, _, s, _, _, _, _, _, _, A, _, _, _) => ∃ xs : Nat → Int32, va_X b n xs s s.heap ∧ b < s.heap.size ∧ ¬ A b ∧ n ≤ 2560 ∧ f = fun j => (xs j.toNat).toInt
theorem z_SXf {κ : zK} {b n : Nat} {f : Int → Int} (h : z_SX κ b n f) (j : Int) : z32 (f j) := by
  obtain ⟨p, l, e, R, s, m, args, below, meth, c, Q, A, D, cA, nL⟩ := κ
  obtain ⟨xs, -, -, -, -, rfl⟩ := h
  exact z32_of _
theorem z_SXn {κ : zK} {b n : Nat} {f : Int → Int} (h : z_SX κ b n f) : n ≤ 2560 := by
  obtain ⟨p, l, e, R, s, m, args, below, meth, c, Q, A, D, cA, nL⟩ := κ
  obtain ⟨xs, -, -, -, h, -⟩ := h
  exact h
/-- a method that reads the script too -/
def z_PcS (T : Nat → z_Ty) (N : Nat) (a : Nat → Nat) (D : va_G) (cA : Nat → ClassId) (st : z_St) (As : List Value) (sz b n : Nat) (f : Int → Int) : Array Value → State → Prop := fun v U => z_Pc T N a D cA st As sz v U ∧ ∃ xs : Nat → Int32, va_X b n xs U U.heap ∧ b < sz ∧ (∀ k : Nat, k < N → a k ≠ b) ∧ n ≤ 2560 ∧ f = fun j => (xs j.toNat).toInt
def z_MS (kd mu : Nat) (l : Launch) (y : MethodName) (ws : List Cond) (lam : Nat) (T : Nat → z_Ty) (N : Nat) (a : Nat → Nat) (As : List Value) (b n : Nat) (f : Int → Int) (st : z_St) (r : Int) (st' : z_St) : Prop :=
  ∀ (D : va_G) (cA : Nat → ClassId) (sz : Nat), Met l y ws (z_rm lam mu (6 * mu)) (z_PcS T N a D cA st As sz b n f) (z_Q kd T N a D cA r st' (z_A a N sz)) mu (6 * mu) (z_A a N sz)
theorem z_ofU {l : Launch} {kd mu : Nat} {y : MethodName} {cc : ByteArray} {n lam : Nat} {ret : Option FieldType} {T : Nat → z_Ty} {N : Nat} {a : Nat → Nat} {As : List Value} {st : z_St} {r : Int} {st' : z_St} (htr : l.stackTraces = false) (hy : plainFor y = true) (hAs : (lg_sl As).length ≤ n)
    (body : ∀ κ : zK, z_C κ y.cls cc n lam mu (6 * mu) → z_AP κ a N → z_EU kd mu κ ret T N a r st' → z_V κ T N a 0 0 0 (lv_args 0 As) [] st) : z_MU kd mu l y (z_w y cc n ret) lam T N a As st r st' := by
  intro D cA sz
  refine z_metF (cc := cc) (maxL := n) (ret := ret) hy rfl ?_
  intro p e s m args below meth c s₁ B hml hv
  obtain ⟨rfl, hsz, hP, hK, hX9, hinj⟩ := hv
  have hts := atoms_spec (ws := z_w y cc n ret) B.pre
  have hl := lv_entry As hAs
  rw [lg_entry_eq]
  subst hsz
  exact body (p, l, e, _, s, m, As.toArray, below, meth, c, _, z_A a N s.heap.size, D, cA, n)
    ⟨B.exec, B.bytes, hml, rfl, findClass_of_methodNamed B.named, fun w hw => hts w (List.mem_cons_of_mem _ hw), B.notSynchronized, hK, fun q h => Or.inr h, Nat.le_refl _, Nat.le_refl _, Nat.le_refl _, Nat.le_refl _, hX9, htr⟩
    ⟨hinj, fun k h => Or.inl ⟨k, h, rfl⟩⟩ ⟨B.returns, rfl⟩ s.heap [] _ hP va_S.rf hl
theorem z_ofS {l : Launch} {kd mu : Nat} {y : MethodName} {cc : ByteArray} {n lam : Nat} {ret : Option FieldType} {T : Nat → z_Ty} {N : Nat} {a : Nat → Nat} {As : List Value} {b n9 : Nat} {f : Int → Int} {st : z_St} {r : Int} {st' : z_St} (htr : l.stackTraces = false) (hy : plainFor y = true) (hAs : (lg_sl As).length ≤ n)
    (body : ∀ κ : zK, z_C κ y.cls cc n lam mu (6 * mu) → z_AP κ a N → z_SX κ b n9 f → z_EU kd mu κ ret T N a r st' → z_V κ T N a 0 0 0 (lv_args 0 As) [] st) : z_MS kd mu l y (z_w y cc n ret) lam T N a As b n9 f st r st' := by
  intro D cA sz
  refine z_metF (cc := cc) (maxL := n) (ret := ret) hy rfl ?_
  intro p e s m args below meth c s₁ B hml hv
  obtain ⟨⟨rfl, hsz, hP, hK, hX9, hinj⟩, xs, x1, x2, x3, x4, x5⟩ := hv
  have hts := atoms_spec (ws := z_w y cc n ret) B.pre
  have hl := lv_entry As hAs
  rw [lg_entry_eq]
  subst hsz
  exact body (p, l, e, _, s, m, As.toArray, below, meth, c, _, z_A a N s.heap.size, D, cA, n)
    ⟨B.exec, B.bytes, hml, rfl, findClass_of_methodNamed B.named, fun w hw => hts w (List.mem_cons_of_mem _ hw), B.notSynchronized, hK, fun q h => Or.inr h, Nat.le_refl _, Nat.le_refl _, Nat.le_refl _, Nat.le_refl _, hX9, htr⟩
    ⟨hinj, fun k h => Or.inl ⟨k, h, rfl⟩⟩ ⟨xs, x1, x2, fun hA => by
      rcases hA with ⟨k, h1, h2⟩ | h
      · exact x3 k h1 h2.symm
      · omega, x4, x5⟩ ⟨B.returns, rfl⟩ s.heap [] _ hP va_S.rf hl
theorem z_ofH {l : Launch} {kd mu : Nat} {y : MethodName} {cc : ByteArray} {n lam : Nat} {ret : Option FieldType} {hh : List (Nat × Nat × Nat × Nat)} {T : Nat → z_Ty} {N : Nat} {a : Nat → Nat} {As : List Value} {st : z_St} {r : Int} {st' : z_St} (htr : l.stackTraces = false) (hy : plainName y.cls = true) (hAs : (lg_sl As).length ≤ n) (hcd : Cond.codeWith y cc n ret hh ∈ z_tbl)
    (body : ∀ κ : zK, z_C κ y.cls cc n lam mu (6 * mu) → z_AP κ a N → z_EH kd mu κ hh ret T N a r st' → z_V κ T N a 0 0 0 (lv_args 0 As) [] st) : z_MU kd mu l y (z_wH y cc n ret hh) lam T N a As st r st' := by
  intro D cA sz
  refine MetFree.of_bodyS (code := cc) (maxLocals := n) (ret := ret) hy ?_ ?_
  · intro args s m h hn
    obtain ⟨m9, meth, c, hn9, h1, h2, h3, h4, -, h5, h6, -⟩ := Cond.codeWith_spec (atoms_spec (ws := z_wH y cc n ret hh) h _ List.mem_cons_self)
    cases hn.symm.trans hn9
    exact ⟨meth, c, h1, h2, h3, h4, h5, h6⟩
  · intro p e s m args below meth c s₁ B hml hv _
    have hh0 : s₁.heap = s.heap := by rw [B.state]; rfl
    have hts := atoms_spec (ws := z_wH y cc n ret hh) B.pre
    have htab := vx_table (x := y) B (hts _ List.mem_cons_self)
    obtain ⟨rfl, hsz, hP, hK, hX9, hinj⟩ := hv
    have hl := lv_entry As hAs
    subst hsz
    have K : W p l e (headSpec (z_wH y cc n ret hh) (z_rm lam mu (6 * mu))).room s m As.toArray below meth c s.heap [] 0 0 (MQ below (z_Q kd T N a D cA r st' (z_A a N s.heap.size)) As.toArray s mu (6 * mu) (z_A a N s.heap.size)) (entryFrame m As.toArray n) := by
      rw [lg_entry_eq]
      exact body (p, l, e, _, s, m, As.toArray, below, meth, c, _, z_A a N s.heap.size, D, cA, n)
        ⟨B.exec, B.bytes, hml, rfl, findClass_of_methodNamed B.named, fun w hw => hts w (List.mem_cons_of_mem _ hw), B.notSynchronized, hK, fun q h => Or.inr h, Nat.le_refl _, Nat.le_refl _, Nat.le_refl _, Nat.le_refl _, hX9, htr⟩
        ⟨hinj, fun k h => Or.inl ⟨k, h, rfl⟩⟩ ⟨B.returns, htab, rfl⟩ s.heap [] _ hP va_S.rf hl
    obtain ⟨t, a1, o, b1, b2, b3⟩ := K s₁ hh0 (Stand.of_body B)
    exact ⟨t, o, a1, b1, b2, ⟨b3.1, b3.2⟩⟩
section
variable {κ : zK} {own : String} {cc : ByteArray} {n lam mc ms : Nat} {T : Nat → z_Ty} {N : Nat} {a : Nat → Nat} {cells slots pc : Nat} {L : List (Nat × Value)} {S : List Value} {st : z_St}
theorem z_retUJ {v : Int} {mu : Nat} (hc : z_C κ own cc n lam mc ms) (he : z_EU 1 mu κ (some .long) T N a v st) (hd : decode cc pc = .ok (.lreturn, 1)) : z_V κ T N a mu (6 * mu) pc L [.long (zJ v)] st := by
  obtain ⟨p, l, e, R, s, m, args, below, meth, c, Q, A, D, cA, nL⟩ := κ
  obtain ⟨hx, hb, hml, hn, hown, hts, hlk, hK, hA, hfr, hlo, hce, hsl, hX9, htr⟩ := hc
  obtain ⟨hr, hQ⟩ := he
  intro H locs ls hP hS hl
  subst hQ
  exact W.lret hx hb hr (fun t ht hW => ⟨⟨zJ v, (), rfl, rfl, by show va_P _ _ _ t.heap; rw [ht]; exact hP⟩, by rw [ht]; exact hS.1, fun q h1 h2 => by rw [ht]; exact hS.2.1 q h1 h2⟩) hS.2.2 hd hlk
theorem z_retUZ {v : Int} {mu : Nat} (hc : z_C κ own cc n lam mc ms) (he : z_EU 0 mu κ (some .boolean) T N a v st) (hz : v = 0 ∨ v = 1) (hd : decode cc pc = .ok (.ireturn, 1)) : z_V κ T N a mu (6 * mu) pc L [.int (zI v)] st := by
  obtain ⟨p, l, e, R, s, m, args, below, meth, c, Q, A, D, cA, nL⟩ := κ
  obtain ⟨hx, hb, hml, hn, hown, hts, hlk, hK, hA, hfr, hlo, hce, hsl, hX9, htr⟩ := hc
  obtain ⟨hr, hQ⟩ := he
  intro H locs ls hP hS hl
  subst hQ
  exact W.zret hx hb hr (z_bool hz).1 (fun t ht hW => ⟨⟨zI v, (), rfl, rfl, by show va_P _ _ _ t.heap; rw [ht]; exact hP⟩, by rw [ht]; exact hS.1, fun q h1 h2 => by rw [ht]; exact hS.2.1 q h1 h2⟩) hS.2.2 hd hlk
theorem z_retUI {v : Int} {mu : Nat} (hc : z_C κ own cc n lam mc ms) (he : z_EU 0 mu κ (some .int) T N a v st) (hd : decode cc pc = .ok (.ireturn, 1)) : z_V κ T N a mu (6 * mu) pc L [.int (zI v)] st := by
  obtain ⟨p, l, e, R, s, m, args, below, meth, c, Q, A, D, cA, nL⟩ := κ
  obtain ⟨hx, hb, hml, hn, hown, hts, hlk, hK, hA, hfr, hlo, hce, hsl, hX9, htr⟩ := hc
  obtain ⟨hr, hQ⟩ := he
  intro H locs ls hP hS hl
  subst hQ
  exact W.iret hx hb hr (fun t ht hW => ⟨⟨zI v, (), rfl, rfl, by show va_P _ _ _ t.heap; rw [ht]; exact hP⟩, by rw [ht]; exact hS.1, fun q h1 h2 => by rw [ht]; exact hS.2.1 q h1 h2⟩) hS.2.2 hd hlk
theorem z_catch {kd mu : Nat} {hh : List (Nat × Nat × Nat × Nat)} {rt : Option FieldType} {v : Int} {st9 : z_St} {e9 : Nat} (pre : List ExceptionTableEntry) (x : ExceptionTableEntry) (suf : List ExceptionTableEntry) (hc : z_C κ own cc n lam mc ms) (he : z_EH kd mu κ hh rt T N a v st9) (hsplit : tableOf hh = pre ++ x :: suf) (h9 : e9 < 4) (hpass : ∀ z ∈ pre, ∃ j, j < 4 ∧ z.catchType ≠ 0 ∧ Cond.classLink own z.catchType (z_en j) ∈ z_tbl ∧ z_en e9 ≠ z_en j) (hx9 : covers x pc = true) (h0 : x.catchType ≠ 0) (hlink : Cond.classLink own x.catchType (z_en e9) ∈ z_tbl)
    (kk : ∀ q : Nat, z_V κ T N a cells slots x.handlerPc L [.ref q] st) : z_VX κ T N a cells slots pc L (z_en e9) st := by
  obtain ⟨p, l, e, R, s, m, args, below, meth, c, Q, A, D, cA, nL⟩ := κ
  obtain ⟨hx, hb, hml, hn, hown, hts, hlk, hK, hA, hfr, hlo, hce, hsl, hX9, htr⟩ := hc
  obtain ⟨hr, htab, hQ⟩ := he
  obtain ⟨x1, x2, x3, x4, x5, x6⟩ := hX9
  intro H locs ls S q9 ce hP hS hl h1 h2 h3
  refine vx_catch hown pre x suf (htab.trans hsplit) (fun z hz => ?_) hx9 h0 (hts _ hlink) ?_ h1 h2 h3 (kk q9 H locs ls hP hS hl)
  · obtain ⟨j, j1, j2, j3, j4⟩ := hpass z hz
    exact Or.inr ⟨j2, z_en j, hts _ j3, x4 e9 j h9 j1 j4⟩
  · have h8 := x3 e9 h9
    unfold va_Nw at h8
    exact va_tabs (A := #[]) rfl rfl h8
theorem z_sld {b n9 : Nat} {f : Int → Int} {i : Int} (hX : z_SX κ b n9 f) (hc : z_C κ own cc n lam mc ms) (hd : decode cc pc = .ok (.iaload, 1)) (hi : 0 ≤ i ∧ i < n9) (kk : z_V κ T N a cells slots (pc + 1) L (.int (zI (f i)) :: S) st) : z_V κ T N a cells slots pc L (.int (zI i) :: .ref b :: S) st := by
  obtain ⟨p, l, e, R, s, m, args, below, meth, c, Q, A, D, cA, nL⟩ := κ
  obtain ⟨hx, hb, hml, hn, hown, hts, hlk, hK, hA, hfr, hlo, hce, hsl, hX9, htr⟩ := hc
  obtain ⟨xs, x1, x2, x3, x4, rfl⟩ := hX
  intro H locs ls hP hS hl
  refine va_sld hx hb x1 x2 x3 hS (zI_in hi (by omega)) hd ?_
  rw [zI_cl hi.1 (by omega), zI_of (xs i.toNat)]
  exact kk H locs ls hP hS hl
theorem z_slen {b n9 : Nat} {f : Int → Int} (hX : z_SX κ b n9 f) (hc : z_C κ own cc n lam mc ms) (hd : decode cc pc = .ok (.arraylength, 1)) (kk : z_V κ T N a cells slots (pc + 1) L (.int (zI (n9 : Int)) :: S) st) : z_V κ T N a cells slots pc L (.ref b :: S) st := by
  obtain ⟨p, l, e, R, s, m, args, below, meth, c, Q, A, D, cA, nL⟩ := κ
  obtain ⟨hx, hb, hml, hn, hown, hts, hlk, hK, hA, hfr, hlo, hce, hsl, hX9, htr⟩ := hc
  obtain ⟨xs, x1, x2, x3, x4, rfl⟩ := hX
  intro H locs ls hP hS hl
  refine va_slen hx hb x1 x2 x3 hS hd ?_
  exact kk H locs ls hP hS hl
-- calls: of methods of the law
theorem z_callUJ (c2 s2 : Nat) {mu : Nat} {y : MethodName} {cc' : ByteArray} {n' np lam' idx : Nat} {ret : Option FieldType} {S0 : List Value} {r : Int} {st' : z_St} (As : List Value) (hc : z_C κ own cc n lam mc ms) (hap : z_AP κ a N) (ho : z_oS y cc' n' ret np) (hlk9 : Cond.methodLink own idx y ∈ z_tbl) (hM : ∀ l : Launch, l.stackTraces = false → z_MU 1 mu l y (z_w y cc' n' ret) lam' T N a As st r st') (hlam : lam' < lam) (hAs : As.length = np) (hS0 : S0 = As.reverse ++ S) (hW : (S.map fun v => v.category).sum ≤ 8) (hc2 : cells + mu ≤ c2) (hs2 : slots + 6 * mu ≤ s2) (hcl : c2 ≤ mc) (hsl9 : s2 ≤ ms) (hd : decode cc pc = .ok (.invokestatic idx, 3)) (kk : z_V κ T N a c2 s2 (pc + 3) L (.long (zJ r) :: S) st') : z_V κ T N a cells slots pc L S0 st := by
  obtain ⟨p, l, e, R, s, m, args, below, meth, c, Q, A, D, cA, nL⟩ := κ
  obtain ⟨hx, hb, hml, hn, hown, hts, hlk, hK, hA, hfr, hlo, hce, hsl, hX9, htr⟩ := hc
  intro H locs ls hP hS hl
  have hcm : cells + mu ≤ R.cells := by omega
  have hsm : slots + 6 * mu ≤ R.slots := by omega
  refine va_calll (va_runS (As := As) (rest := S) ⟨hx, hb, hml.trans hn, hown, hts⟩ (hM l htr D cA H.size) ⟨z_callB ho.1 hts hlk9 hlam hfr hlo, hts _ ho.2⟩ ⟨z_blind, z_pre (As := As) hP hS hK hX9 hA hap.1 hap.2⟩ rfl hAs (by show ls.size = n; rw [hl.1, hn]) hS0 (lv_room hW) hd ⟨hcm, hsm⟩) hS (fun q _ h => z_A1 hS hA hap.2 q h) (z_A1 hS hA hap.2) (fun x u t H1 locs1 ht _ hw9 hB _ _ hS1 => ?_)
  have hw9 : x = zJ r := hw9
  subst hw9
  rw [ht] at hB
  exact W.widen hc2 hs2 (kk H1 locs1 ls hB hS1 hl)
theorem z_callUI (c2 s2 : Nat) {mu : Nat} {y : MethodName} {cc' : ByteArray} {n' np lam' idx : Nat} {ret : Option FieldType} {S0 : List Value} {r : Int} {st' : z_St} (As : List Value) (hc : z_C κ own cc n lam mc ms) (hap : z_AP κ a N) (ho : z_oS y cc' n' ret np) (hlk9 : Cond.methodLink own idx y ∈ z_tbl) (hM : ∀ l : Launch, l.stackTraces = false → z_MU 0 mu l y (z_w y cc' n' ret) lam' T N a As st r st') (hlam : lam' < lam) (hAs : As.length = np) (hS0 : S0 = As.reverse ++ S) (hW : (S.map fun v => v.category).sum ≤ 8) (hc2 : cells + mu ≤ c2) (hs2 : slots + 6 * mu ≤ s2) (hcl : c2 ≤ mc) (hsl9 : s2 ≤ ms) (hd : decode cc pc = .ok (.invokestatic idx, 3)) (kk : z_V κ T N a c2 s2 (pc + 3) L (.int (zI r) :: S) st') : z_V κ T N a cells slots pc L S0 st := by
  obtain ⟨p, l, e, R, s, m, args, below, meth, c, Q, A, D, cA, nL⟩ := κ
  obtain ⟨hx, hb, hml, hn, hown, hts, hlk, hK, hA, hfr, hlo, hce, hsl, hX9, htr⟩ := hc
  intro H locs ls hP hS hl
  have hcm : cells + mu ≤ R.cells := by omega
  have hsm : slots + 6 * mu ≤ R.slots := by omega
  refine va_calli (va_runS (As := As) (rest := S) ⟨hx, hb, hml.trans hn, hown, hts⟩ (hM l htr D cA H.size) ⟨z_callB ho.1 hts hlk9 hlam hfr hlo, hts _ ho.2⟩ ⟨z_blind, z_pre (As := As) hP hS hK hX9 hA hap.1 hap.2⟩ rfl hAs (by show ls.size = n; rw [hl.1, hn]) hS0 (lv_room hW) hd ⟨hcm, hsm⟩) hS (fun q _ h => z_A1 hS hA hap.2 q h) (z_A1 hS hA hap.2) (fun x u t H1 locs1 ht _ hw9 hB _ _ hS1 => ?_)
  have hw9 : x = zI r := hw9
  subst hw9
  rw [ht] at hB
  exact W.widen hc2 hs2 (kk H1 locs1 ls hB hS1 hl)
theorem z_callHJ (c2 s2 : Nat) {mu : Nat} {y : MethodName} {cc' : ByteArray} {n' np lam' idx : Nat} {ret : Option FieldType} {hh : List (Nat × Nat × Nat × Nat)} {S0 : List Value} {r : Int} {st' : z_St} (As : List Value) (hc : z_C κ own cc n lam mc ms) (hap : z_AP κ a N) (hcd : Cond.codeWith y cc' n' ret hh ∈ z_tbl) (hlk9 : Cond.methodLink own idx y ∈ z_tbl) (hst9 : Cond.static y ∈ z_tbl) (hin9 : Cond.initialized y.cls ∈ z_tbl) (hnp : y.cls ≠ "java/lang/invoke/MethodHandle" ∧ y.cls ≠ "java/lang/invoke/VarHandle" ∧ (parseMethodDescriptor y.desc).map (fun d => d.parameters.length) = some np) (hn41 : n' ≤ 41) (hM : ∀ l : Launch, l.stackTraces = false → z_MU 1 mu l y (z_wH y cc' n' ret hh) lam' T N a As st r st') (hlam : lam' < lam) (hAs : As.length = np) (hS0 : S0 = As.reverse ++ S) (hW : (S.map fun v => v.category).sum ≤ 8) (hc2 : cells + mu ≤ c2) (hs2 : slots + 6 * mu ≤ s2) (hcl : c2 ≤ mc) (hsl9 : s2 ≤ ms) (hd : decode cc pc = .ok (.invokestatic idx, 3)) (kk : z_V κ T N a c2 s2 (pc + 3) L (.long (zJ r) :: S) st') : z_V κ T N a cells slots pc L S0 st := by
  obtain ⟨p, l, e, R, s, m, args, below, meth, c, Q, A, D, cA, nL⟩ := κ
  obtain ⟨hx, hb, hml, hn, hown, hts, hlk, hK, hA, hfr, hlo, hce, hsl, hX9, htr⟩ := hc
  intro H locs ls hP hS hl
  have hcm : cells + mu ≤ R.cells := by omega
  have hsm : slots + 6 * mu ≤ R.slots := by omega
  refine va_calll (vx_runSW (As := As) (rest := S) ⟨hx, hb, hml.trans hn, hown, hts⟩ (hM l htr D cA H.size) (vx_cwSW np hts (z_gdH hcd hlk9 hst9 hin9) rfl rfl rfl hnp ⟨by show lam' + 1 ≤ _; omega, by show 8 + (n' + 11) + 60 * lam' ≤ _; omega⟩) ⟨z_blind, z_pre (As := As) hP hS hK hX9 hA hap.1 hap.2⟩ rfl hAs (by show ls.size = n; rw [hl.1, hn]) hS0 (lv_room hW) hd ⟨hcm, hsm⟩) hS (fun q _ h => z_A1 hS hA hap.2 q h) (z_A1 hS hA hap.2) (fun x u t H1 locs1 ht _ hw9 hB _ _ hS1 => ?_)
  have hw9 : x = zJ r := hw9
  subst hw9
  rw [ht] at hB
  exact W.widen hc2 hs2 (kk H1 locs1 ls hB hS1 hl)
theorem z_blindS {D : va_G} {cA : Nat → ClassId} {As : List Value} {sz b n9 : Nat} {f : Int → Int} : FrameBlind (z_PcS T N a D cA st As sz b n9 f) := fun av U g mk q => by
  obtain ⟨q1, xs, x1, x2⟩ := q
  exact ⟨z_blind av U g mk q1, xs, x1.moved (Vm.Alike.refl U.vm), x2⟩
theorem z_callSS (c2 s2 : Nat) {mu : Nat} {y : MethodName} {cc' : ByteArray} {n' np lam' idx : Nat} {ret : Option FieldType} {S0 : List Value} {r : Int} {st' : z_St} {b n9 : Nat} {f : Int → Int} (As : List Value) (hX : z_SX κ b n9 f) (hc : z_C κ own cc n lam mc ms) (hap : z_AP κ a N) (ho : z_oS y cc' n' ret np) (hlk9 : Cond.methodLink own idx y ∈ z_tbl) (hM : ∀ l : Launch, l.stackTraces = false → z_MS 0 mu l y (z_w y cc' n' ret) lam' T N a As b n9 f st r st') (hlam : lam' < lam) (hAs : As.length = np) (hS0 : S0 = As.reverse ++ S) (hW : (S.map fun v => v.category).sum ≤ 8) (hc2 : cells + mu ≤ c2) (hs2 : slots + 6 * mu ≤ s2) (hcl : c2 ≤ mc) (hsl9 : s2 ≤ ms) (hd : decode cc pc = .ok (.invokestatic idx, 3)) (kk : z_V κ T N a c2 s2 (pc + 3) L (.int (zI r) :: S) st') : z_V κ T N a cells slots pc L S0 st := by
  obtain ⟨p, l, e, R, s, m, args, below, meth, c, Q, A, D, cA, nL⟩ := κ
  obtain ⟨hx, hb, hml, hn, hown, hts, hlk, hK, hA, hfr, hlo, hce, hsl, hX9, htr⟩ := hc
  obtain ⟨xs, x1, x2, x3, x4, x5⟩ := hX
  intro H locs ls hP hS hl
  have hcm : cells + mu ≤ R.cells := by omega
  have hsm : slots + 6 * mu ≤ R.slots := by omega
  refine va_calli (va_runS (As := As) (rest := S) ⟨hx, hb, hml.trans hn, hown, hts⟩ (hM l htr D cA H.size) ⟨z_callB ho.1 hts hlk9 hlam hfr hlo, hts _ ho.2⟩ ⟨z_blindS, fun U hU hW => ⟨z_pre (As := As) hP hS hK hX9 hA hap.1 hap.2 U hU hW, xs, ?_, Nat.lt_of_lt_of_le x2 hS.1, fun k hk e9 => x3 (e9 ▸ hap.2 k hk), x4, x5⟩⟩ rfl hAs (by show ls.size = n; rw [hl.1, hn]) hS0 (lv_room hW) hd ⟨hcm, hsm⟩) hS (fun q _ h => z_A1 hS hA hap.2 q h) (z_A1 hS hA hap.2) (fun x u t H1 locs1 ht _ hw9 hB _ _ hS1 => ?_)
  · rw [hU]
    exact (x1.kept (hS.2.1 b x2 x3)).moved hW.alike
  · have hw9 : x = zI r := hw9
    subst hw9
    rw [ht] at hB
    exact W.widen hc2 hs2 (kk H1 locs1 ls hB hS1 hl)
end
