-- THE LAYER Z: a numbered world. Cell k lies at the address a k; what it holds is a table of whole numbers st k j; T k says of which kind it is.
abbrev z_St : Type := Int → Int → Int
def zI (x : Int) : Int32 := Int32.ofInt x
def zJ (x : Int) : Int64 := Int64.ofInt x
abbrev z32 (x : Int) : Prop := -2147483648 ≤ x ∧ x ≤ 2147483647
abbrev z64 (x : Int) : Prop := -9223372036854775808 ≤ x ∧ x ≤ 9223372036854775807
theorem zI_add (x y : Int) : zI x + zI y = zI (x + y) := (Int32.ofInt_add x y).symm
theorem zI_sub (x y : Int) : zI x - zI y = zI (x - y) := by
  rw [Int32.sub_eq_add_neg, show -zI y = zI (-y) from Int32.neg_ofInt, zI_add, Int.sub_eq_add_neg]
theorem zI_mul (x y : Int) : zI x * zI y = zI (x * y) := (Int32.ofInt_mul x y).symm
theorem zJ_add (x y : Int) : zJ x + zJ y = zJ (x + y) := (Int64.ofInt_add x y).symm
theorem zJ_sub (x y : Int) : zJ x - zJ y = zJ (x - y) := by
  rw [Int64.sub_eq_add_neg, show -zJ y = zJ (-y) from Int64.neg_ofInt, zJ_add, Int.sub_eq_add_neg]
theorem zJ_mul (x y : Int) : zJ x * zJ y = zJ (x * y) := (Int64.ofInt_mul x y).symm
theorem zJ_neg (x : Int) : - zJ x = zJ (-x) := Int64.neg_ofInt
theorem zI_toInt {x : Int} (h : z32 x) : (zI x).toInt = x := Int32.toInt_ofInt_of_le (by simpa using h.1) (by have := h.2; simp; omega)
theorem zJ_toInt {x : Int} (h : z64 x) : (zJ x).toInt = x := Int64.toInt_ofInt_of_le (by simpa using h.1) (by have := h.2; simp; omega)
theorem zI_of (x : Int32) : x = zI x.toInt := (Int32.ofInt_toInt x).symm
theorem zJ_of (x : Int64) : x = zJ x.toInt := (Int64.ofInt_toInt x).symm
theorem z32_of (x : Int32) : z32 x.toInt := ⟨Int32.le_toInt x, Int32.toInt_le x⟩
theorem z64_of (x : Int64) : z64 x.toInt := ⟨Int64.le_toInt x, Int64.toInt_le x⟩
theorem zI_lt {x y : Int} (hx : z32 x) (hy : z32 y) : zI x < zI y ↔ x < y := by rw [Int32.lt_iff_toInt_lt, zI_toInt hx, zI_toInt hy]
theorem zI_le {x y : Int} (hx : z32 x) (hy : z32 y) : zI x ≤ zI y ↔ x ≤ y := by rw [Int32.le_iff_toInt_le, zI_toInt hx, zI_toInt hy]
theorem zI_eq {x y : Int} (hx : z32 x) (hy : z32 y) : zI x = zI y ↔ x = y := by rw [← Int32.toInt_inj, zI_toInt hx, zI_toInt hy]
theorem zJ_lt {x y : Int} (hx : z64 x) (hy : z64 y) : zJ x < zJ y ↔ x < y := by rw [Int64.lt_iff_toInt_lt, zJ_toInt hx, zJ_toInt hy]
theorem zJ_le {x y : Int} (hx : z64 x) (hy : z64 y) : zJ x ≤ zJ y ↔ x ≤ y := by rw [Int64.le_iff_toInt_le, zJ_toInt hx, zJ_toInt hy]
theorem zJ_eq {x y : Int} (hx : z64 x) (hy : z64 y) : zJ x = zJ y ↔ x = y := by rw [← Int64.toInt_inj, zJ_toInt hx, zJ_toInt hy]
theorem zI_zJ {x : Int} (h : z32 x) : (zI x).toInt64 = zJ x := Int32.toInt64_ofInt (Int.le_trans (by decide) h.1) (Int.le_trans h.2 (by decide))
theorem zJ_zI (x : Int) : (zJ x).toInt32 = zI x := Int64.toInt32_ofInt
theorem zI_in {i : Int} {n : Nat} (h : 0 ≤ i ∧ i < n) (hn : n < 2147483648) : vp_in (zI i) n := by
  rw [vp_in_iff, zI_toInt ⟨by omega, by omega⟩]; exact h
theorem zI_cl {i : Int} (h0 : 0 ≤ i) (h : i ≤ 2147483647) : (zI i).toNatClampNeg = i.toNat := Int32.toNatClampNeg_ofInt_of_le (by omega) (by simp; omega)
theorem zI_div {x y : Int} (hx : z32 x) (hy : z32 y) : zI x / zI y = zI (x.tdiv y) := by
  apply Int32.toInt_inj.mp
  rw [Int32.toInt_div, zI_toInt hx, zI_toInt hy]
  show _ = (Int32.ofInt _).toInt
  rw [Int32.toInt_ofInt]
theorem zI_rem {x y : Int} (hx : z32 x) (hy : z32 y) : zI x - zI x / zI y * zI y = zI (x.tmod y) := by
  rw [zI_div hx hy, zI_mul, zI_sub]
  congr 1
  have := Int.mul_tdiv_add_tmod x y
  rw [Int.mul_comm] at this
  omega
theorem zJ_div {x y : Int} (hx : z64 x) (hy : z64 y) : zJ x / zJ y = zJ (x.tdiv y) := by
  apply Int64.toInt_inj.mp
  rw [Int64.toInt_div, zJ_toInt hx, zJ_toInt hy]
  show _ = (Int64.ofInt _).toInt
  rw [Int64.toInt_ofInt]
theorem zJ_rem {x y : Int} (hx : z64 x) (hy : z64 y) : zJ x - zJ x / zJ y * zJ y = zJ (x.tmod y) := by
  rw [zJ_div hx hy, zJ_mul, zJ_sub]
  congr 1
  have := Int.mul_tdiv_add_tmod x y
  rw [Int.mul_comm] at this
  omega
-- what the pure texts are made of
def z_g {α : Type} (c : Prop) [Decidable c] (x : Option α) : Option α := if c then x else none
theorem z_g_some {α : Type} {c : Prop} [Decidable c] {x : Option α} {r : α} (h : z_g c x = some r) : c ∧ x = some r := by
  unfold z_g at h
  by_cases hc : c
  · rw [if_pos hc] at h; exact ⟨hc, h⟩
  · rw [if_neg hc] at h; cases h
theorem z_g_pos {α : Type} {c : Prop} [Decidable c] {x : Option α} (hc : c) : z_g c x = x := if_pos hc
def z_b {α β : Type} (x : Option α) (f : α → Option β) : Option β := match x with
  | none => none
  | some v => f v
theorem z_b_some {α β : Type} {x : Option α} {f : α → Option β} {r : β} (h : z_b x f = some r) : ∃ v, x = some v ∧ f v = some r := by
  cases x with
  | none => cases h
  | some v => exact ⟨v, rfl, h⟩
def z_let {α β : Type} (x : α) (f : α → β) : β := f x
/-- what a call that may throw leaves: a value, or the number of an exception with the world behind it -/
abbrev z_R (α : Type) : Type := α ⊕ (Nat × z_St)
def z_x {α β : Type} (x : Option (z_R α)) (f : α → Option (z_R β)) : Option (z_R β) := match x with
  | none => none
  | some (.inl v) => f v
  | some (.inr q) => some (.inr q)
def z_up (st : z_St) (i j v : Int) : z_St := fun x y => if x = i ∧ y = j then v else st x y
def z_F : Nat := 1000000
def z_iter {σ ρ : Type} : Nat → (σ → Option (σ ⊕ ρ)) → σ → Option ρ
  | 0, _, _ => none
  | n + 1, B, s => match B s with
    | none => none
    | some (.inl s') => z_iter n B s'
    | some (.inr r) => some r
theorem z_loop {σ ρ : Type} (B : σ → Option (σ ⊕ ρ)) (Vh : σ → Prop) (Vx : ρ → Prop) (step : ∀ s o, B s = some o → (∀ s', o = .inl s' → Vh s') → (∀ x, o = .inr x → Vx x) → Vh s) :
    ∀ (n : Nat) (s : σ) (x : ρ), z_iter n B s = some x → Vx x → Vh s := by
  intro n
  induction n with
  | zero => intro s x h; cases h
  | succ n ih =>
    intro s x h hx
    unfold z_iter at h
    cases hb : B s with
    | none => rw [hb] at h; cases h
    | some o =>
      refine step s o hb ?_ ?_
      · intro s' e
        subst e
        rw [hb] at h
        exact ih s' x h hx
      · intro y e
        subst e
        rw [hb] at h
        cases h
        exact hx
-- kinds of cells
abbrev z_Ty : Type := (Nat × List (Nat × Nat)) ⊕ (Nat × Nat × Nat × Nat × Nat)
def z_v (a : Nat → Nat) (k : Nat) (q : Nat × Nat) (x : Int) : Value := match q.1 with
  | 0 => .int (zI x)
  | 1 => .long (zJ x)
  | 2 => .int (zI x)
  | 3 => va_rf (if x < 0 then none else some (a x.toNat))
  | 4 => .ref (a (k + q.2))
  | _ => .null
def z_fs (a : Nat → Nat) (k : Nat) (ks : List (Nat × Nat)) (f : Int → Int) : List Value := (List.range ks.length).map fun j => z_v a k (ks.getD j (0, 0)) (f j)
def z_arr (a : Nat → Nat) (k : Nat) (q : Nat × Nat × Nat × Nat × Nat) (f : Int → Int) : vp_A := match q.1 with
  | 0 => (q.2.2.1, .inl fun j => zI (f j))
  | 1 => (q.2.2.1, .inr (.inl fun j => zJ (f j)))
  | 2 => (q.2.2.1, .inl fun j => zI (f j))
  | 3 => (q.2.2.1, .inr (.inr (.inr (.inr fun j => if f j < 0 then none else some (a (f j).toNat)))))
  | 4 => (q.2.2.1, .inr (.inr (.inr (.inr fun j => if j < q.2.2.1 then some (a (k + q.2.2.2.1 + q.2.2.2.2 * j)) else none))))
  | _ => (q.2.2.1, .inr (.inr (.inr (.inr fun j => if (j : Int) < f (-1) then some (a (k + q.2.2.2.1 + q.2.2.2.2 * j)) else none))))
def z_ent (a : Nat → Nat) (cA : Nat → ClassId) (ty : z_Ty) (k : Nat) (f : Int → Int) : va_E := match ty with
  | .inl q => .inr (q.1, z_fs a k q.2 f)
  | .inr q => .inl (cA q.2.1, z_arr a k q f)
def z_ws (cA : Nat → ClassId) (T : Nat → z_Ty) (a : Nat → Nat) (N : Nat) (st : z_St) : va_W := (List.range N).map fun k => (a k, z_ent a cA (T k) k (st k))
theorem z_ws_get {cA : Nat → ClassId} {T : Nat → z_Ty} {a : Nat → Nat} {N k : Nat} {st : z_St} (hk : k < N) : (z_ws cA T a N st)[k]? = some (a k, z_ent a cA (T k) k (st k)) := by
  unfold z_ws
  rw [List.getElem?_map, List.getElem?_range hk]
  rfl
theorem z_ws_len {cA : Nat → ClassId} {T : Nat → z_Ty} {a : Nat → Nat} {N : Nat} {st : z_St} : (z_ws cA T a N st).length = N := by simp [z_ws]
theorem z_ws_inv {cA : Nat → ClassId} {T : Nat → z_Ty} {a : Nat → Nat} {N k : Nat} {st : z_St} {q : Nat × va_E} (h : (z_ws cA T a N st)[k]? = some q) : k < N ∧ q = (a k, z_ent a cA (T k) k (st k)) := by
  have hl := (List.getElem?_eq_some_iff.mp h).1
  rw [z_ws_len] at hl
  rw [z_ws_get hl] at h
  cases h
  exact ⟨hl, rfl⟩
theorem z_ws_set {cA : Nat → ClassId} {T : Nat → z_Ty} {a : Nat → Nat} {N k : Nat} {st st' : z_St} {e : va_E} (hk : k < N) (he : e = z_ent a cA (T k) k (st' k)) (ho : ∀ k' : Nat, k' ≠ k → st' k' = st k') : (z_ws cA T a N st).set k (a k, e) = z_ws cA T a N st' := by
  apply List.ext_getElem?
  intro j
  by_cases hj : j < N
  · rw [z_ws_get hj]
    by_cases e' : j = k
    · subst e'
      rw [List.getElem?_set_self (by rw [z_ws_len]; exact hj), he]
    · rw [List.getElem?_set_ne (Ne.symm e'), z_ws_get hj, ho j e']
  · rw [List.getElem?_eq_none (by rw [List.length_set, z_ws_len]; omega), List.getElem?_eq_none (by rw [z_ws_len]; omega)]
theorem z_fs_get {a : Nat → Nat} {k j : Nat} {ks : List (Nat × Nat)} {q : Nat × Nat} {f : Int → Int} (h : ks[j]? = some q) : (z_fs a k ks f)[j]? = some (z_v a k q (f j)) := by
  have hj := (List.getElem?_eq_some_iff.mp h).1
  unfold z_fs
  rw [List.getElem?_map, List.getElem?_range hj]
  simp [List.getD, h]
theorem z_fs_len {a : Nat → Nat} {k : Nat} {ks : List (Nat × Nat)} {f : Int → Int} : (z_fs a k ks f).length = ks.length := by simp [z_fs]
theorem z_fs_set {a : Nat → Nat} {k j : Nat} {ks : List (Nat × Nat)} {q : Nat × Nat} {f f' : Int → Int} {v : Value} (h : ks[j]? = some q) (hv : v = z_v a k q (f' j)) (ho : ∀ i : Nat, i ≠ j → f' i = f i) : (z_fs a k ks f).set j v = z_fs a k ks f' := by
  apply List.ext_getElem?
  intro i
  by_cases hi : i < ks.length
  · by_cases e : i = j
    · subst e
      rw [List.getElem?_set_self (by rw [z_fs_len]; exact hi), z_fs_get h, hv]
    · obtain ⟨q', hq'⟩ : ∃ q', ks[i]? = some q' := ⟨ks[i], List.getElem?_eq_getElem hi⟩
      rw [List.getElem?_set_ne (Ne.symm e), z_fs_get hq', z_fs_get hq', ho i e]
  · rw [List.getElem?_eq_none (by rw [List.length_set, z_fs_len]; omega), List.getElem?_eq_none (by rw [z_fs_len]; omega)]
def z_inj (a : Nat → Nat) (N : Nat) : Prop := ∀ i j : Nat, i < N → j < N → a i = a j → i = j
def z_A (a : Nat → Nat) (N sz : Nat) : Nat → Prop := fun q => (∃ k : Nat, k < N ∧ q = a k) ∨ sz ≤ q
theorem z_D {cA : Nat → ClassId} {T : Nat → z_Ty} {a : Nat → Nat} {N sz : Nat} {st : z_St} (h : z_inj a N) : va_D (z_A a N sz) (z_ws cA T a N st) := by
  refine ⟨fun i j p q hi hj hpq => ?_, fun k q hk => ?_⟩
  · obtain ⟨h1, rfl⟩ := z_ws_inv hi
    obtain ⟨h2, rfl⟩ := z_ws_inv hj
    exact h i j h1 h2 hpq
  · obtain ⟨h1, rfl⟩ := z_ws_inv hk
    exact Or.inl ⟨k, h1, rfl⟩
def z_tys (cA : Nat → ClassId) : List (ClassId × FieldType) := [(cA 0, .int), (cA 1, .long), (cA 2, .boolean), (cA 3, .array .int), (cA 4, .array .long), (cA 5, .object "Latticehear$Sound"), (cA 6, .object "Latticehear$Saying")]
-- the words that every method has
def z_tbl : List Cond := lw_tbl.filter goodWord
theorem z_t0 {w : Cond} (h : w ∈ k2_sels lw_privs) (g : goodWord w = true) : w ∈ z_tbl := List.mem_filter.mpr ⟨List.mem_append_left _ h, g⟩
theorem z_tt {w : Cond} (h : w ∈ tables_1) (g : goodWord w = true) : w ∈ z_tbl := List.mem_filter.mpr ⟨List.mem_append_right _ h, g⟩
theorem z_t1 {w : Cond} (i : Nat) (h : tables_1_1[i]? = some w) (g : goodWord w = true) : w ∈ z_tbl := z_tt (List.mem_append_left _ (List.mem_of_getElem? h)) g
theorem z_t2 {w : Cond} (i : Nat) (h : tables_1_2[i]? = some w) (g : goodWord w = true) : w ∈ z_tbl := z_tt (List.mem_append_right _ (List.mem_append_left _ (List.mem_of_getElem? h))) g
theorem z_t3 {w : Cond} (i : Nat) (h : tables_1_3[i]? = some w) (g : goodWord w = true) : w ∈ z_tbl := z_tt (List.mem_append_right _ (List.mem_append_right _ (List.mem_append_left _ (List.mem_of_getElem? h)))) g
theorem z_t4 {w : Cond} (i : Nat) (h : tables_1_4[i]? = some w) (g : goodWord w = true) : w ∈ z_tbl := z_tt (List.mem_append_right _ (List.mem_append_right _ (List.mem_append_right _ (List.mem_append_left _ (List.mem_of_getElem? h))))) g
theorem z_t5 {w : Cond} (i : Nat) (h : tables_1_5[i]? = some w) (g : goodWord w = true) : w ∈ z_tbl := z_tt (List.mem_append_right _ (List.mem_append_right _ (List.mem_append_right _ (List.mem_append_right _ (List.mem_of_getElem? h))))) g
theorem z_good {w : Cond} (h : w ∈ z_tbl) : (w.onTables && w.keeps) = true ∨ ∃ ty, w = .arrayClass ty := good_of_word (List.mem_filter.mp h).2
def z_w (y : MethodName) (cc : ByteArray) (n : Nat) (ret : Option FieldType) : List Cond := .code y cc n ret :: z_tbl
theorem z_gd {y : MethodName} {cc : ByteArray} {n : Nat} {ret : Option FieldType} (h : Cond.code y cc n ret ∈ z_tbl) : GoodIn z_tbl (z_w y cc n ret) := fun w hw => by
  rcases List.mem_cons.mp hw with e | h'
  · rw [e]; exact ⟨h, z_good h⟩
  · exact ⟨h', z_good h'⟩
def z_en : Nat → String
  | 1 => "java/lang/IllegalArgumentException"
  | 2 => "java/lang/IllegalStateException"
  | _ => "java/lang/IndexOutOfBoundsException"
def z_strs : List (String × Nat × String) := [(RX11, 321, "out of range"), (RX11, 90, "there are 16 frames"), (RX11, 326, "there is no such one"), (RX11, 329, "there is no best row"), (RX11, 151, "there are 6 sounds"), (RX11, 169, "the sound has three questions"), (RX11, 177, "the text has 4 letters"), (RX11, 189, "no word can be made of the text"), (RX11, 197, "no second saying can be made of the text")]
def z_dcl : List MethodName := [Bundle.initS "java/lang/RuntimeException", Bundle.initS "java/lang/Exception", Bundle.initS "java/lang/Throwable"]
/-- what throwing and catching needs -/
def z_X (A : Nat → Prop) (U : State) (H : Heap) : Prop := vx_Zq Bundle.tN "UNASSIGNED_STACK" Bundle.steD A U H ∧ vx_Zq Bundle.tN "SUPPRESSED_SENTINEL" Bundle.listD A U H ∧ (∀ i : Nat, i < 4 → va_Nw (.castable (z_en i) (z_en i)) U) ∧ (∀ i j : Nat, i < 4 → j < 4 → z_en i ≠ z_en j → va_Nc (z_en i) (z_en j) U) ∧ (∀ q ∈ z_strs, ∃ sa, vk_R q.1 q.2.1 q.2.2 sa U) ∧ ∀ y ∈ z_dcl, va_Nw (.declares y) U
theorem va_Nc.moved9 {C T : String} {u U : State} (hvm : u.vm.Alike U.vm) (h : va_Nc C T u) : va_Nc C T U := by
  obtain ⟨c, t, h1, h2, h3⟩ := h
  exact ⟨c, t, by rw [hvm.findClass]; exact h1, by rw [hvm.findClass]; exact h2, by rw [hvm.assignable]; exact h3⟩
theorem z_X.go {A B : Nat → Prop} {s U : State} {H : Heap} (h : z_X A s s.heap) (hq : ∀ q : Nat, q < s.heap.size → ¬ A q → H[q]? = s.heap[q]?) (hAB : ∀ q, B q → A q) (hW : s.WarmedH U.vm) : z_X B U H := by
  obtain ⟨h1, h2, h3, h4, h5, h7⟩ := h
  refine ⟨((h1.kept hq).narrow hAB).moved hW.alike, ((h2.kept hq).narrow hAB).moved hW.alike, fun i hi => va_Nw.warmC hW (h3 i hi), fun i j hi hj hn => (h4 i j hi hj hn).moved9 hW.alike, fun q hq9 => ?_, fun y hy => va_Nw.warmD hW (h7 y hy)⟩
  obtain ⟨sa, h6⟩ := h5 q hq9
  exact ⟨sa, vk_R.warm hW h6⟩
-- where a walk stands: p l e R s m args below meth c, its end Q, the addresses that it may write A, the classes D, the array classes cA, the number of locals
abbrev zK : Type := Program × Launch × Env × Room × State × MethodId × Array Value × List Frame × Method × Code × (State → Prop) × (Nat → Prop) × va_G × (Nat → ClassId) × Nat
def z_V (κ : zK) (T : Nat → z_Ty) (N : Nat) (a : Nat → Nat) (cells slots pc : Nat) (L : List (Nat × Value)) (S : List Value) (st : z_St) : Prop := match κ with
  | (p, l, e, R, s, m, args, below, meth, c, Q, A, D, cA, nL) => ∀ (H : Heap) (locs : List Loc) (ls : Array Slot), va_P D vwCl (z_ws cA T a N st) H → va_S A s.heap H locs → lv_has ls nL L → W p l e R s m args below meth c H locs cells slots Q (F0 m pc ls S)
/-- an exception of the class E is on its way at pc -/
def z_VX (κ : zK) (T : Nat → z_Ty) (N : Nat) (a : Nat → Nat) (cells slots pc : Nat) (L : List (Nat × Value)) (E : String) (st : z_St) : Prop := match κ with
  | (p, l, e, R, s, m, args, below, meth, c, Q, A, D, cA, nL) => ∀ (H : Heap) (locs : List Loc) (ls : Array Slot) (S : List Value) (q9 : Nat) (ce : Cell), va_P D vwCl (z_ws cA T a N st) H → va_S A s.heap H locs → lv_has ls nL L → H[q9]? = some ce → ce.vm = .none → s.vm.findClass E = some ce.cls → vx_W p l e R s m args below meth c H locs cells slots Q (F0 m pc ls S) q9
/-- what holds all along a walk -/
def z_C (κ : zK) (own : String) (cc : ByteArray) (n lam : Nat) (mc ms : Nat) : Prop := match κ with
  | (p, l, _, R, s, m, args, _, meth, c, _, A, D, cA, nL) => p.tables.exec = Jvm.exec ∧ c.code = cc ∧ c.maxLocals = nL ∧ nL = n ∧ s.vm.findClass own = some m.cls ∧ (∀ w ∈ z_tbl, w.before args s = true) ∧ meth.locks = false ∧ va_K D vwCl (z_tys cA) s ∧ (∀ q : Nat, s.heap.size ≤ q → A q) ∧
    lam ≤ R.frames ∧ 60 * lam ≤ R.locals ∧ mc ≤ R.cells ∧ ms ≤ R.slots ∧ z_X A s s.heap ∧ l.stackTraces = false
/-- the addresses of the world are apart and may be written -/
def z_AP (κ : zK) (a : Nat → Nat) (N : Nat) : Prop := match κ with
  | (_, _, _, _, _, _, _, _, _, _, _, A, _, _, _) => z_inj a N ∧ ∀ k : Nat, k < N → A (a k)
