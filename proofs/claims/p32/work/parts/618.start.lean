/-! THE CLAIM OUT OF ONE WALK OF THE LAW'S BODY. Your part is whole_start (and what it stands on); all else here is the same for every law, but numbers. -/
def R_law : String := "LatticehearLaw"
def lw_P (b : Addr) (xs : List Int32) (args : Array Value) (s : State) : Prop := args = #[.ref b] ∧ s.IntsAt b xs ∧ xs.length ≤ 260 ∧ (Jvm.Cond.and given_1 narrow_1).before args s = true
/-- what a walk over the start with the record d0 says of its end, said of the start itself -/
theorem lw_closed {s t : State} {o : Outcome} {d0 : Drawn} {L : List Loc} {k n : Nat} (hd0 : s.drawn.sameBut d0 lw_cs) (hv : ∃ v, o = .returned v) (hW : (s.setDrawn d0).WarmedH t.vm) (hs : (s.setDrawn d0).sameButNew ({ t with vm := s.vm } : State) L k n) : State.butDraws s t lw_cs (fun t1 => Framed s o t1 L k n) := by
  have h2 : t.drawn = d0 := congrArg State.drawn hs.1
  refine ⟨⟨hv, hW, State.sameButNew.setDrawn hs s.drawn⟩, ?_, by decide⟩
  rw [h2]
  exact hd0
def lw_Q (_ : Array Value) (s : State) (o : Outcome) (t : State) : Prop := o = .returned (some (.int 1)) ∧ State.butDraws s t lw_cs (fun t1 => Framed s o t1 [] 600104 7301314)
def lw_Z (below : List Frame) (a : Array Value) (s : State) : State → Prop := fun t => ∃ o, t.status = .running ∧ Ended t below o ∧ lw_Q a s o t
/-- the law's own end, with 1 on the stack, nothing written that was there before, its room as the claim has it; d0: the record of draws at this point (at the entry s.drawn: begin with 'refine W.base ?_' and 'have hd0 := Drawn.sameBut.refl s.drawn lw_cs') -/
theorem lw_ret {p : Program} {l : Launch} {e : Env} {s : State} {m : MethodId} {below : List Frame} {meth : Method} {c : Code} {b : Nat} {d0 : Drawn} (hd0 : s.drawn.sameBut d0 lw_cs) (hx : p.tables.exec = Jvm.exec) (hb : c.code = code) (hr : meth.sig.returnType = ret) (hlocks : meth.locks = false) {pc : Nat} {H : Heap} {ls : Array Slot} (hdg : decode code pc = .ok (.ireturn, 1)) : W p l e room_1 (s.setDrawn d0) m #[Value.ref b] below meth c H [] 600104 7301314 (lw_Z below #[Value.ref b] s) (F0 m pc ls [.int 1]) := by
  intro T hT X
  obtain ⟨fs, hret, hrun, hended, hW, hframe⟩ := X.leave (v := some (.int 1)) (hlocks := hlocks) (fun h => by rw [hr] at h; cases h)
  have hmeth' : T.vm.method? m = some meth := X.method'
  refine ⟨T.setFrames fs, ?_, .returned (some (.int 1)), hrun, hended, rfl, lw_closed hd0 ⟨_, rfl⟩ hW hframe⟩
  jvm_step X.here [X.here.top, hx, hb, hdg, hmeth', hr, ret, narrow_b1]
  (try refine ⟨rfl, ?_⟩); (try refine ⟨rfl, ?_⟩)
  first | (intro acts; rw [hret _ acts rfl rfl rfl]) | rw [hret _ _ rfl rfl rfl]
  exact Steps.refl _
/-- what holds at the law's entry: the machine, the code, the tables' words (any of lw_tbl by 'hts w (by decide +kernel)'), the script of L ints xs at the cell b, what the Statement gives of the start (any of its parts by flat_of_before) -/
def lw_At (p : Program) (s : State) (m : MethodId) (meth : Method) (c : Code) (b L : Nat) (xs : Nat → Int32) : Prop :=
  p.tables.exec = Jvm.exec ∧ c.code = code ∧ meth.sig.returnType = ret ∧ c.maxLocals = 10 ∧ s.vm.findClass R_law = some m.cls ∧ (∀ w ∈ lw_tbl, w.before #[Value.ref b] s = true) ∧ va_X b L xs s s.heap ∧ b < s.heap.size ∧ meth.locks = false ∧ (Jvm.Cond.and given_1 narrow_1).before #[Value.ref b] s = true
theorem zn_RL_10 : ∃ q : vw_C, vwCl[11]? = some q ∧ q.2.2 = 11 ∧ Cond.classLink RL 10 q.1 ∈ z_tbl ∧ Cond.instantiable q.1 11 ∈ z_tbl ∧ Cond.initialized q.1 ∈ z_tbl ∧ (∀ w ∈ u_ws q.1 q.2.1 q.2.2, w ∈ z_tbl) ∧ ∃ ty : Nat → FieldType, (∀ k, k < q.2.2 → parseFieldDescriptor (q.2.1 k).2.2.1 = some (ty k)) ∧ ∀ j, j < q.2.2 → defaultValue (ty j) = vp_V (z_fs (z_at 0) 0 [(5, 0), (5, 0), (5, 0), (5, 0), (5, 0), (5, 0), (5, 0), (5, 0), (5, 0), (5, 0), (5, 0)] (fun _ => 0)) j := ⟨(RX11, TX11, 11), rfl, rfl, z_t1 22 rfl rfl, z_t1 23 rfl rfl, z_t1 1 rfl rfl, win_X11, tyX11, tyX11_ok, fun j hj => match j, hj with | 0, _ => rfl | 1, _ => rfl | 2, _ => rfl | 3, _ => rfl | 4, _ => rfl | 5, _ => rfl | 6, _ => rfl | 7, _ => rfl | 8, _ => rfl | 9, _ => rfl | 10, _ => rfl | _ + 11, h => absurd h (by show ¬ _ < 11; omega)⟩
-- THE START (laid by wip/gen32/zstart.py)
theorem z_u1 {w : Cond} (i : Nat) (h : tables_1_1[i]? = some w) : w ∈ lw_tbl := List.mem_append_right _ (List.mem_append_left _ (List.mem_of_getElem? h))
theorem z_u2 {w : Cond} (i : Nat) (h : tables_1_2[i]? = some w) : w ∈ lw_tbl := List.mem_append_right _ (List.mem_append_right _ (List.mem_append_left _ (List.mem_of_getElem? h)))
theorem z_u3 {w : Cond} (i : Nat) (h : tables_1_3[i]? = some w) : w ∈ lw_tbl := List.mem_append_right _ (List.mem_append_right _ (List.mem_append_right _ (List.mem_append_left _ (List.mem_of_getElem? h))))
theorem z_u4 {w : Cond} (i : Nat) (h : tables_1_4[i]? = some w) : w ∈ lw_tbl := List.mem_append_right _ (List.mem_append_right _ (List.mem_append_right _ (List.mem_append_right _ (List.mem_append_left _ (List.mem_of_getElem? h)))))
theorem z_u5 {w : Cond} (i : Nat) (h : tables_1_5[i]? = some w) : w ∈ lw_tbl := List.mem_append_right _ (List.mem_append_right _ (List.mem_append_right _ (List.mem_append_right _ (List.mem_append_right _ ((List.mem_of_getElem? h))))))
theorem z_cls {s : State} {args : Array Value} (hts : ∀ w ∈ z_tbl, w.before args s = true) : ∀ k : Nat, ∃ (cC : ClassId) (iS : Nat → Nat), ∀ q : vw_C, vwCl[k]? = some q → u_Kn s q.1 q.2.1 q.2.2 cC iS := fun k => match k with
  | 0 => by
    obtain ⟨cC, iS, h⟩ := u_known hts win_X0 (hts _ (z_t1 191 rfl rfl))
    exact ⟨cC, iS, fun q hq => by cases hq; exact h⟩
  | 1 => by
    obtain ⟨cC, iS, h⟩ := u_known hts win_X1 (hts _ (z_t1 31 rfl rfl))
    exact ⟨cC, iS, fun q hq => by cases hq; exact h⟩
  | 2 => by
    obtain ⟨cC, iS, h⟩ := u_known hts win_X2 (hts _ (z_t1 161 rfl rfl))
    exact ⟨cC, iS, fun q hq => by cases hq; exact h⟩
  | 3 => by
    obtain ⟨cC, iS, h⟩ := u_known hts win_X3 (hts _ (z_t2 51 rfl rfl))
    exact ⟨cC, iS, fun q hq => by cases hq; exact h⟩
  | 4 => by
    obtain ⟨cC, iS, h⟩ := u_known hts win_X4 (hts _ (z_t1 58 rfl rfl))
    exact ⟨cC, iS, fun q hq => by cases hq; exact h⟩
  | 5 => by
    obtain ⟨cC, iS, h⟩ := u_known hts win_X5 (hts _ (z_t1 219 rfl rfl))
    exact ⟨cC, iS, fun q hq => by cases hq; exact h⟩
  | 6 => by
    obtain ⟨cC, iS, h⟩ := u_known hts win_X6 (hts _ (z_t2 99 rfl rfl))
    exact ⟨cC, iS, fun q hq => by cases hq; exact h⟩
  | 7 => by
    obtain ⟨cC, iS, h⟩ := u_known hts win_X7 (hts _ (z_t1 96 rfl rfl))
    exact ⟨cC, iS, fun q hq => by cases hq; exact h⟩
  | 8 => by
    obtain ⟨cC, iS, h⟩ := u_known hts win_X8 (hts _ (z_t2 21 rfl rfl))
    exact ⟨cC, iS, fun q hq => by cases hq; exact h⟩
  | 9 => by
    obtain ⟨cC, iS, h⟩ := u_known hts win_X9 (hts _ (z_t1 67 rfl rfl))
    exact ⟨cC, iS, fun q hq => by cases hq; exact h⟩
  | 10 => by
    obtain ⟨cC, iS, h⟩ := u_known hts win_X10 (hts _ (z_t2 77 rfl rfl))
    exact ⟨cC, iS, fun q hq => by cases hq; exact h⟩
  | 11 => by
    obtain ⟨cC, iS, h⟩ := u_known hts win_X11 (hts _ (z_t1 23 rfl rfl))
    exact ⟨cC, iS, fun q hq => by cases hq; exact h⟩
  | _ + 12 => ⟨0, fun _ => 0, fun q hq => nomatch hq⟩
def z_tyl : List FieldType := [.int, .long, .boolean, .array .int, .array .long, .object "Latticehear$Sound", .object "Latticehear$Saying"]
theorem z_cas {s : State} {args : Array Value} (hts : ∀ w ∈ lw_tbl, w.before args s = true) : ∀ k : Nat, ∃ cA : ClassId, ∀ ty : FieldType, z_tyl[k]? = some ty → ArrOfT s cA ty ∧ va_RA s cA ty := fun k => match k with
  | 0 => by
    obtain ⟨c, kc, comp, h1, h2, h3⟩ := Cond.arrayClass_spec (hts _ (z_u1 56 rfl))
    exact ⟨c, fun ty hq => by cases hq; exact ⟨fun n z => ⟨fun k h => (by cases h), kc, h2, comp, h3⟩, h1⟩⟩
  | 1 => by
    obtain ⟨c, kc, comp, h1, h2, h3⟩ := Cond.arrayClass_spec (hts _ (z_u1 217 rfl))
    exact ⟨c, fun ty hq => by cases hq; exact ⟨fun n z => ⟨fun k h => (by cases h), kc, h2, comp, h3⟩, h1⟩⟩
  | 2 => by
    obtain ⟨c, kc, comp, h1, h2, h3⟩ := Cond.arrayClass_spec (hts _ (z_u2 49 rfl))
    exact ⟨c, fun ty hq => by cases hq; exact ⟨fun n z => ⟨fun k h => (by cases h), kc, h2, comp, h3⟩, h1⟩⟩
  | 3 => by
    obtain ⟨comp, c, kc, h1, h2, h3, h4, h5⟩ := Jvm.Stand.arrayOver_specB (hts _ (z_u1 37 rfl))
    exact ⟨c, fun ty hq => by cases hq; exact ⟨fun n z => ⟨fun k h => (by cases h), kc, h3, comp, h4⟩, h5⟩⟩
  | 4 => by
    obtain ⟨comp, c, kc, h1, h2, h3, h4, h5⟩ := Jvm.Stand.arrayOver_specB (hts _ (z_u1 197 rfl))
    exact ⟨c, fun ty hq => by cases hq; exact ⟨fun n z => ⟨fun k h => (by cases h), kc, h3, comp, h4⟩, h5⟩⟩
  | 5 => by
    obtain ⟨comp, c, kc, h1, h2, h3, h4, h5⟩ := Cond.arrayOver_spec (hts _ (z_u1 64 rfl))
    exact ⟨c, fun ty hq => by cases hq; exact ⟨fun n z => ⟨fun k h => (by cases h), kc, h3, comp, h4⟩, kc, comp, h3, h4, h1, h5⟩⟩
  | 6 => by
    obtain ⟨comp, c, kc, h1, h2, h3, h4, h5⟩ := Cond.arrayOver_spec (hts _ (z_u1 66 rfl))
    exact ⟨c, fun ty hq => by cases hq; exact ⟨fun n z => ⟨fun k h => (by cases h), kc, h3, comp, h4⟩, kc, comp, h3, h4, h1, h5⟩⟩
  | _ + 7 => ⟨0, fun q hq => nomatch hq⟩
theorem z_X0 {s : State} {b : Nat} (hts : ∀ w ∈ lw_tbl, w.before #[Value.ref b] s = true) (hgv : (Jvm.Cond.and given_1 narrow_1).before #[Value.ref b] s = true) : z_X (fun q => s.heap.size ≤ q) s s.heap := by
  have hz : ∀ w ∈ z_tbl, w.before #[Value.ref b] s = true := fun w hw => hts w (List.mem_filter.mp hw).1
  have hfl := flat_of_before _ hgv
  refine ⟨vx_Zqof (hts _ (z_u2 210 rfl)) (hz _ (z_t1 13 rfl rfl)) (hfl _ (by decide +kernel)) (fun a h1 h2 => absurd h1 (by omega)), vx_Zqof (hts _ (z_u2 212 rfl)) (hz _ (z_t1 13 rfl rfl)) (hfl _ (by decide +kernel)) (fun a h1 h2 => absurd h1 (by omega)), ?_, ?_, ?_, ?_⟩
  · intro i hi
    match i, hi with
    | 0, _ => exact va_Nw.of rfl (hts _ (z_u3 39 rfl))
    | 1, _ => exact va_Nw.of rfl (hts _ (z_u2 185 rfl))
    | 2, _ => exact va_Nw.of rfl (hts _ (z_u3 13 rfl))
    | 3, _ => exact va_Nw.of rfl (hts _ (z_u3 39 rfl))
    | _ + 4, h => exact absurd h (by omega)
  · have k12 : va_Nc (z_en 1) (z_en 2) s := va_Nc.of (hfl _ (by decide +kernel))
    have k21 : va_Nc (z_en 2) (z_en 1) s := va_Nc.of (hfl _ (by decide +kernel))
    have k13 : va_Nc (z_en 1) (z_en 3) s := va_Nc.of (hfl _ (by decide +kernel))
    have k31 : va_Nc (z_en 3) (z_en 1) s := va_Nc.of (hfl _ (by decide +kernel))
    have k23 : va_Nc (z_en 2) (z_en 3) s := va_Nc.of (hfl _ (by decide +kernel))
    have k32 : va_Nc (z_en 3) (z_en 2) s := va_Nc.of (hfl _ (by decide +kernel))
    intro i j hi hj hn
    match i, hi with
    | 0, _ =>
      match j, hj with
      | 0, _ => exact absurd rfl hn
      | 1, _ => exact k31
      | 2, _ => exact k32
      | 3, _ => exact absurd rfl hn
      | _ + 4, h => exact absurd h (by omega)
    | 1, _ =>
      match j, hj with
      | 0, _ => exact k13
      | 1, _ => exact absurd rfl hn
      | 2, _ => exact k12
      | 3, _ => exact k13
      | _ + 4, h => exact absurd h (by omega)
    | 2, _ =>
      match j, hj with
      | 0, _ => exact k23
      | 1, _ => exact k21
      | 2, _ => exact absurd rfl hn
      | 3, _ => exact k23
      | _ + 4, h => exact absurd h (by omega)
    | 3, _ =>
      match j, hj with
      | 0, _ => exact absurd rfl hn
      | 1, _ => exact k31
      | 2, _ => exact k32
      | 3, _ => exact absurd rfl hn
      | _ + 4, h => exact absurd h (by omega)
    | _ + 4, h => exact absurd h (by omega)
  · have key : ∀ (own : String) (k : Nat) (tx : String), Cond.stringRef own k tx ∈ lw_tbl → ∃ sa, vk_R own k tx sa s := fun own k tx hm => by
      have h1 := hts _ hm
      cases hc : s.vm.findClass own with
      | none => simp [Cond.before, Cond.holds, Cond.value, hc] at h1
      | some cc =>
        obtain ⟨k1, cf, i, a, -, -, -, -, -, h2⟩ := Cond.stringRef_spec hc h1
        exact ⟨a, vk_R.of h1 h2⟩
    intro q hq
    unfold z_strs at hq
    rcases List.mem_cons.mp hq with e | hq
    · subst e; exact key _ _ _ (z_u2 224 rfl)
    rcases List.mem_cons.mp hq with e | hq
    · subst e; exact key _ _ _ (z_u3 20 rfl)
    rcases List.mem_cons.mp hq with e | hq
    · subst e; exact key _ _ _ (z_u3 46 rfl)
    rcases List.mem_cons.mp hq with e | hq
    · subst e; exact key _ _ _ (z_u4 164 rfl)
    rcases List.mem_cons.mp hq with e | hq
    · subst e; exact key _ _ _ (z_u3 61 rfl)
    rcases List.mem_cons.mp hq with e | hq
    · subst e; exact key _ _ _ (z_u3 66 rfl)
    rcases List.mem_cons.mp hq with e | hq
    · subst e; exact key _ _ _ (z_u3 75 rfl)
    rcases List.mem_cons.mp hq with e | hq
    · subst e; exact key _ _ _ (z_u3 84 rfl)
    rcases List.mem_cons.mp hq with e | hq
    · subst e; exact key _ _ _ (z_u3 100 rfl)
    cases hq
  · intro y hy
    unfold z_dcl at hy
    rcases List.mem_cons.mp hy with e | hy
    · subst e; exact va_Nw.of rfl (hts _ (z_u2 187 rfl))
    rcases List.mem_cons.mp hy with e | hy
    · subst e; exact va_Nw.of rfl (hts _ (z_u2 189 rfl))
    rcases List.mem_cons.mp hy with e | hy
    · subst e; exact va_Nw.of rfl (hts _ (z_u2 191 rfl))
    cases hy
theorem z_Y0 {s : State} {b : Nat} (hts : ∀ w ∈ lw_tbl, w.before #[Value.ref b] s = true) : z_Y s := by
  refine ⟨?_, ?_, ?_⟩
  · intro q hq
    unfold z_nst at hq
    rcases List.mem_cons.mp hq with e | hq
    · subst e; exact va_Nw.of rfl (hts _ (z_u1 32 rfl))
    rcases List.mem_cons.mp hq with e | hq
    · subst e; exact va_Nw.of rfl (hts _ (z_u1 68 rfl))
    rcases List.mem_cons.mp hq with e | hq
    · subst e; exact va_Nw.of rfl (hts _ (z_u1 97 rfl))
    rcases List.mem_cons.mp hq with e | hq
    · subst e; exact va_Nw.of rfl (hts _ (z_u1 162 rfl))
    rcases List.mem_cons.mp hq with e | hq
    · subst e; exact va_Nw.of rfl (hts _ (z_u1 192 rfl))
    rcases List.mem_cons.mp hq with e | hq
    · subst e; exact va_Nw.of rfl (hts _ (z_u1 220 rfl))
    rcases List.mem_cons.mp hq with e | hq
    · subst e; exact va_Nw.of rfl (hts _ (z_u2 22 rfl))
    rcases List.mem_cons.mp hq with e | hq
    · subst e; exact va_Nw.of rfl (hts _ (z_u2 52 rfl))
    rcases List.mem_cons.mp hq with e | hq
    · subst e; exact va_Nw.of rfl (hts _ (z_u2 78 rfl))
    rcases List.mem_cons.mp hq with e | hq
    · subst e; exact va_Nw.of rfl (hts _ (z_u2 100 rfl))
    cases hq
  · intro ty hty
    rcases hty with rfl | rfl
    · exact hts _ (z_u1 37 rfl)
    · exact hts _ (z_u1 197 rfl)
  · intro C hC
    rcases hC with rfl | rfl
    · exact va_AO.of (hts _ (z_u1 64 rfl))
    · exact va_AO.of (hts _ (z_u1 66 rfl))
theorem z_tT : ∀ j, j < 168 → z_Tr z_T0 0 168 j = z_T j := fun j hj => by
  unfold z_Tr
  rw [if_pos ⟨Nat.zero_le _, by omega⟩]
set_option maxRecDepth 100000 in
set_option maxHeartbeats 4000000 in
theorem z_start {p : Program} {e : Env} {s : State} {m : MethodId} {below : List Frame} {meth : Method} {c : Code} (l : Launch) (hflags : l.flags = flags0) {b L : Nat} {xs : Nat → Int32} (hL : L ≤ 260) (C0 : lw_At p s m meth c b L xs) {o : Int × z_St} (ho : o.1 = 1) (hJ : J_L_law_8 (fun j => (xs j.toNat).toInt) (L : Int) z_s0 = some o) : W p l e room_1 s m #[Value.ref b] below meth c s.heap [] 0 0 (lw_Z below #[Value.ref b] s) (entryFrame m ([Value.ref b] : List Value).toArray 10) := by
  obtain ⟨hx, hb, hr, hml, hown, hts, hX, hbl, hlocks, hgv⟩ := C0
  have htr : l.stackTraces = false := by rw [Launch.stackTraces, hflags]; decide +kernel
  have hz : ∀ w ∈ z_tbl, w.before #[Value.ref b] s = true := fun w hw => hts w (List.mem_filter.mp hw).1
  let D : va_G := (fun k => Classical.choose (z_cls hz k), fun k => Classical.choose (Classical.choose_spec (z_cls hz k)))
  let cA : Nat → ClassId := fun k => Classical.choose (z_cas hts k)
  have hK : va_K D vwCl (z_tys cA) s := by
    refine ⟨fun k q hq => Classical.choose_spec (Classical.choose_spec (z_cls hz k)) q hq, fun k q hq => ?_⟩
    have e1 : ∀ k : Nat, (z_tys cA)[k]? = (z_tyl[k]?).map fun ty => (cA k, ty) := fun k => match k with | 0 | 1 | 2 | 3 | 4 | 5 | 6 => rfl | _ + 7 => rfl
    rw [e1] at hq
    cases ht : z_tyl[k]? with
    | none => rw [ht] at hq; cases hq
    | some ty => rw [ht] at hq; cases hq; exact Classical.choose_spec (z_cas hts k) ty ht
  have hl := lv_entry (n := 10) [Value.ref b] (Nat.le_of_ble_eq_true rfl)
  rw [lg_entry_eq]
  let κ : zK := (p, l, e, room_1, s, m, #[Value.ref b], below, meth, c, lw_Z below #[Value.ref b] s, (fun q => s.heap.size ≤ q), D, cA, 10)
  have hc : z_C κ RL cL_law 10 30 7255 (6 * 7255) := ⟨hx, hb, hml, rfl, hown, hz, hlocks, hK, fun q h => h, Nat.le_of_ble_eq_true rfl, Nat.le_of_ble_eq_true rfl, Nat.le_of_ble_eq_true rfl, Nat.le_of_ble_eq_true rfl, z_X0 hts hgv, htr⟩
  have hY : z_YC κ := z_Y0 hts
  have hAB : ∀ N, z_AB κ s.heap.size N := fun N k hk => Nat.le_add_right _ _
  have hAB2 : ∀ (N : Nat) (q : Nat), s.heap.size + N ≤ q → s.heap.size ≤ q := fun N q h => Nat.le_trans (Nat.le_add_right _ _) h
  have hAP : z_AP κ (z_at s.heap.size) z_N := ⟨z_at_inj _ _, fun k _ => Nat.le_add_right _ _⟩
  have hSX : z_SX κ b L (fun j => (xs j.toNat).toInt) := ⟨xs, hX, hbl, Nat.not_le.mpr hbl, by omega, rfl⟩
  have h11 : ∀ x y : Int, ((168 : Nat) : Int) ≤ x → S_X11 (fun _ _ => 0) x y = 0 := zs_X11 (M := 0) (fun _ _ _ => rfl) (by decide)
  have K : z_VB κ z_T0 0 s.heap.size 0 0 0 [(0, .ref b)] [] (fun _ _ => 0) := by
    refine zb_new (NN := 11) (ks := [(5, 0), (5, 0), (5, 0), (5, 0), (5, 0), (5, 0), (5, 0), (5, 0), (5, 0), (5, 0), (5, 0)]) hc (fun y => rfl) rfl zn_RL_10 (fun j => rfl) (Nat.le_of_ble_eq_true rfl) (Nat.le_of_ble_eq_true rfl) dL_law_0 ?_
    refine zb_dup hc dL_law_3 rfl ?_
    refine zb_callI (np := 0) (k := 0) hc (hAB _) (hAB2 _) (z_t1 24 rfl rfl) hY ⟨⟨z_t1 26 rfl rfl, z_t1 1 rfl rfl, by decide +kernel, by decide⟩, z_t1 25 rfl rfl⟩ rfl rfl (fun l hl => b_X11 hl (fun j _ _ => rfl) (fun _ _ _ => rfl)) (by decide) (Nat.le_of_ble_eq_true rfl) (Nat.le_of_ble_eq_true rfl) (Nat.le_of_ble_eq_true rfl) dL_law_4 ?_
    refine zb_astore_n (i := 1) [(1, .ref (s.heap.size + 0)), (0, .ref b)] hc dL_law_7 rfl (by decide) rfl ?_
    refine zb_T (T2 := z_T) z_tT ?_
    have K2 : z_V κ z_T z_N (z_at s.heap.size) 5000 (6 * 5000) 8 [(1, .ref (z_at s.heap.size 0)), (0, .ref b)] [] (S_X11 (fun _ _ => 0)) := by
      refine z_V_low (st' := z_s0) (fun k hk => ?_) ?_
      · unfold z_N at hk
        unfold z_s0 S_X12
        rw [q_up_row (by omega), q_up_row (by omega)]
      refine w_L_law_8 hc hAP hSX (fun L9 => ?_) hJ
      rw [ho]
      intro H locs ls hP hS hl
      refine va_forget (fun q hq => hS.2.2 q hq) ?_
      refine W.widen (show 7255 ≤ 600104 from Nat.le_of_ble_eq_true rfl) (show 6 * 7255 ≤ 7301314 from Nat.le_of_ble_eq_true rfl) ?_
      exact lw_ret (d0 := s.drawn) (Drawn.sameBut.refl s.drawn lw_cs) hx hb hr hlocks dL_law_367
    refine fun H locs ls _ hP hS hl => W.widen (Nat.le_of_ble_eq_true rfl) (Nat.le_of_ble_eq_true rfl) (K2 H locs ls hP hS hl)
  exact K s.heap [] _ rfl (fun k q hq => by cases hq) va_S.rf hl
