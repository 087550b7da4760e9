-- THE ROWS OF 44: worlds with one cell more
def z_Tp (T : Nat → z_Ty) (N : Nat) : Nat → z_Ty := fun k => if k = N then .inr (1, 1, 44, 0, 0) else T k
def z_ap (a : Nat → Nat) (N q : Nat) : Nat → Nat := fun k => if k = N then q else a k
theorem z_Tp_n {T : Nat → z_Ty} {N k : Nat} (h : k ≠ N) : z_Tp T N k = T k := if_neg h
theorem z_Tp_s {T : Nat → z_Ty} {N : Nat} : z_Tp T N N = .inr (1, 1, 44, 0, 0) := if_pos rfl
theorem z_ap_n {a : Nat → Nat} {N q k : Nat} (h : k ≠ N) : z_ap a N q k = a k := if_neg h
theorem z_ap_s {a : Nat → Nat} {N q : Nat} : z_ap a N q N = q := if_pos rfl
abbrev z_T3 : Nat → z_Ty := z_Tp z_T 168
/-- the row that is written lies in the table at 300 -/
def z_wr (st : z_St) : z_St := fun x => if x = 168 then st 300 else if x = 300 then fun _ => 0 else st x
def z_kp (st st' : z_St) : z_St := fun x => if x = 300 then st 300 else st' x
def z_zr (st : z_St) : z_St := fun x => if x = 300 then fun _ => 0 else st x
theorem z_wr_n {st : z_St} {x : Int} (h : x < 168) : z_wr st x = st x := by unfold z_wr; rw [if_neg (by omega), if_neg (by omega)]
theorem z_wr_s {st : z_St} : z_wr st 168 = st 300 := if_pos rfl
theorem z_wr_up {st : z_St} {i v : Int} : z_up (z_wr st) 168 i v = z_wr (z_up st 300 i v) := by
  funext x y
  by_cases h : x = 168
  · subst h
    rw [z_wr_s]
    by_cases h2 : y = i
    · subst h2
      rw [z_up_at, z_up_at]
    · rw [z_up_n (fun k => h2 k.2), z_up_n (fun k => h2 k.2), z_wr_s]
  · rw [z_up_n (fun k => h k.1)]
    unfold z_wr
    rw [if_neg h, if_neg h]
    by_cases h3 : x = 300
    · rw [if_pos h3, if_pos h3]
    · rw [if_neg h3, if_neg h3, z_up_n (fun k => h3 k.1)]
def z_okE (k : Nat) (ty : z_Ty) : Bool := match ty with
  | .inl q => (List.range q.2.length).all fun j => ((q.2.getD j (0, 0)).1 == 3 && k == 134 && (j == 3 || j == 4)) || ((q.2.getD j (0, 0)).1 != 3 && ((q.2.getD j (0, 0)).1 != 4 || decide (k + (q.2.getD j (0, 0)).2 < 168)))
  | .inr q => decide (q.1 < 5) && q.1 != 3 && (q.1 != 4 || (List.range q.2.2.1).all fun j => decide (k + q.2.2.2.1 + q.2.2.2.2 * j < 168))
theorem z_okE_all : ∀ k : Nat, k < 168 → z_okE k (z_T k) = true := by decide +kernel
theorem z_v_ap {a : Nat → Nat} {q N k : Nat} {d : Nat × Nat} {x : Int} (hN : 168 ≤ N) (h : (d.1 = 3 ∧ x < 168) ∨ (d.1 ≠ 3 ∧ (d.1 ≠ 4 ∨ k + d.2 < 168))) : z_v (z_ap a N q) k d x = z_v a k d x := by
  obtain ⟨d1, d2⟩ := d
  dsimp only at h
  match d1, h with
  | 0, _ => rfl
  | 1, _ => rfl
  | 2, _ => rfl
  | 3, h =>
    have hx : x < 168 := by
      rcases h with h | h
      · exact h.2
      · exact absurd rfl h.1
    show va_rf (if x < 0 then none else some (z_ap a N q x.toNat)) = va_rf (if x < 0 then none else some (a x.toNat))
    rw [z_ap_n (by omega)]
  | 4, h =>
    have hx : k + d2 < 168 := by
      rcases h with h | h
      · exact absurd h.1 (by decide)
      · rcases h.2 with h | h
        · exact absurd rfl h
        · exact h
    show Value.ref (z_ap a N q (k + d2)) = .ref (a (k + d2))
    rw [z_ap_n (by omega)]
  | _ + 5, _ => rfl
theorem z_ent_ap {a : Nat → Nat} {q N k : Nat} {cA : Nat → ClassId} {f : Int → Int} (hN : 168 ≤ N) (hk : k < 168) (h : k = 134 → f 3 < 168 ∧ f 4 < 168) : z_ent (z_ap a N q) cA (z_T k) k f = z_ent a cA (z_T k) k f := by
  have hok := z_okE_all k hk
  generalize z_T k = ty at hok ⊢
  cases ty with
  | inl w =>
    show Sum.inr (w.1, z_fs _ k w.2 f) = Sum.inr (w.1, z_fs _ k w.2 f)
    have e : z_fs (z_ap a N q) k w.2 f = z_fs a k w.2 f := by
      unfold z_fs
      refine List.map_congr_left fun j hj => z_v_ap hN ?_
      unfold z_okE at hok
      have h9 := List.all_eq_true.mp hok j hj
      simp only [Bool.or_eq_true, Bool.and_eq_true, beq_iff_eq, bne_iff_ne, decide_eq_true_eq] at h9
      rcases h9 with ⟨⟨h1, h2⟩, h3⟩ | h9
      · refine Or.inl ⟨h1, ?_⟩
        rcases h3 with rfl | rfl
        · exact (h h2).1
        · exact (h h2).2
      · exact Or.inr h9
    rw [e]
  | inr w =>
    obtain ⟨w0, w1, w2, w3, w4⟩ := w
    show Sum.inl (cA w1, z_arr _ k _ f) = Sum.inl (cA w1, z_arr _ k _ f)
    unfold z_okE at hok
    simp only [Bool.or_eq_true, Bool.and_eq_true, bne_iff_ne, decide_eq_true_eq, List.all_eq_true] at hok
    obtain ⟨⟨h0, h1⟩, h2⟩ := hok
    have e : z_arr (z_ap a N q) k (w0, w1, w2, w3, w4) f = z_arr a k (w0, w1, w2, w3, w4) f := by
      match w0, h0, h1, h2 with
      | 0, _, _, _ => rfl
      | 1, _, _, _ => rfl
      | 2, _, _, _ => rfl
      | 3, _, h1, _ => exact absurd rfl h1
      | 4, _, _, h2 =>
        have h3 : ∀ x ∈ List.range w2, k + w3 + w4 * x < 168 := by
          rcases h2 with h2 | h2
          · exact absurd rfl h2
          · exact h2
        have e2 : (fun j : Nat => if j < w2 then some (z_ap a N q (k + w3 + w4 * j)) else none) = (fun j : Nat => if j < w2 then some (a (k + w3 + w4 * j)) else none) := by
          funext j
          by_cases c : j < w2
          · rw [if_pos c, if_pos c, z_ap_n (by have := h3 j (List.mem_range.mpr c); omega)]
          · rw [if_neg c, if_neg c]
        show ((w2, Sum.inr (Sum.inr (Sum.inr (Sum.inr (fun j : Nat => if j < w2 then some (z_ap a N q (k + w3 + w4 * j)) else none))))) : vp_A) = _
        rw [e2]
        rfl
      | _ + 5, h0, _, _ => exact absurd h0 (by omega)
    rw [e]
abbrev z_pt (st : z_St) : Prop := st 134 3 < 168 ∧ st 134 4 < 168
theorem z_inj_le {a : Nat → Nat} {N M : Nat} (h : z_inj a N) (hM : M ≤ N) : z_inj a M := fun i j hi hj e => h i j (by omega) (by omega) e
theorem z_AP_le {κ : zK} {a : Nat → Nat} {N M : Nat} (h : z_AP κ a N) (hM : M ≤ N) : z_AP κ a M := by
  obtain ⟨p, l, e, R, s, m, args, below, meth, c, Q, A, D, cA, nL⟩ := κ
  exact ⟨z_inj_le h.1 hM, fun k hk => h.2 k (by omega)⟩
theorem z_ws_at {cA : Nat → ClassId} {T T3 : Nat → z_Ty} {a : Nat → Nat} {N N3 : Nat} {st st3 : z_St} {D : va_G} {H : Heap} (hT : ∀ k : Nat, k < N → T3 k = T k) (hs : ∀ k : Nat, k < N → st3 k = st k) (hN : N ≤ N3) (h : va_P D vwCl (z_ws cA T3 a N3 st3) H) : va_P D vwCl (z_ws cA T a N st) H := by
  intro k q hk
  obtain ⟨h1, rfl⟩ := z_ws_inv hk
  have := h k _ (z_ws_get (cA := cA) (T := T3) (a := a) (st := st3) (k := k) (N := N3) (by omega))
  rw [hT k h1, hs k h1] at this
  exact this
theorem z_A_le {a : Nat → Nat} {N M sz : Nat} (hM : M ≤ N) : ∀ q, z_A a M sz q → z_A a N sz q := by
  rintro q (⟨k, h1, rfl⟩ | h)
  · exact Or.inl ⟨k, by omega, rfl⟩
  · exact Or.inr h
/-- the frame rule: a contract over a world holds over one with more cells -/
theorem z_lift {kd mu : Nat} {l : Launch} {y : MethodName} {ws : List Cond} {lam : Nat} {T T3 : Nat → z_Ty} {N N3 : Nat} {a : Nat → Nat} {As : List Value} {st st' st3 st3' : z_St} {r : Int} (hkd : kd < 2) (hT : ∀ k : Nat, k < N → T3 k = T k) (hN : N ≤ N3) (h1 : ∀ k : Nat, k < N → st3 k = st k) (h2 : ∀ k : Nat, k < N → st3' k = st' k) (h3 : ∀ k : Nat, N ≤ k → k < N3 → st3' k = st3 k) (h : z_MU kd mu l y ws lam T N a As st r st') : z_MU kd mu l y ws lam T3 N3 a As st3 r st3' := by
  intro D cA sz
  have key : ∀ (s t : State), z_Pc T3 N3 a D cA st3 As sz As.toArray s → va_F (z_A a N sz) s t → va_P D vwCl (z_ws cA T a N st') t.heap → va_P D vwCl (z_ws cA T3 a N3 st3') t.heap := by
    intro s t hp hF hB k q hk
    obtain ⟨-, hsz, hP, -, -, hinj⟩ := hp
    obtain ⟨k1, rfl⟩ := z_ws_inv hk
    by_cases c : k < N
    · have := hB k _ (z_ws_get (cA := cA) (T := T) (a := a) (st := st') (k := k) (N := N) c)
      rw [hT k c, h2 k c]
      exact this
    · have h9 := hP k _ (z_ws_get (cA := cA) (T := T3) (a := a) (st := st3) (k := k) (N := N3) k1)
      rw [h3 k (by omega) k1]
      refine h9.kept ?_
      refine hF.2 _ h9.lt ?_
      rintro (⟨j, j1, j2⟩ | j)
      · have := hinj k j k1 (by omega) j2
        omega
      · have := h9.lt
        omega
  refine MetFree.mono (h D cA sz) ?_ (fun _ _ _ _ _ h => h) ?_
  · rintro av s ⟨q0, q1, q2, q3, ⟨x1, x2, x3, x4, x5, x6⟩, q5⟩
    exact ⟨q0, q1, z_ws_at hT h1 hN q2, q3, ⟨x1.narrow (z_A_le hN), x2.narrow (z_A_le hN), x3, x4, x5, x6⟩, z_inj_le q5 hN⟩
  · rintro av s o t hp ⟨hq, L, hF, hL⟩
    refine ⟨?_, L, hF, fun q hq => z_A_le hN _ (hL q hq)⟩
    have hp0 := hp.1
    subst hp0
    match kd, hkd, hq with
    | 0, _, hq =>
      obtain ⟨⟨x, u, e1, e2, e3⟩, hf⟩ := hq
      exact ⟨⟨x, u, e1, e2, key s t hp hf e3⟩, hf.1, fun q a1 a2 => hf.2 q a1 (fun c => a2 (z_A_le hN _ c))⟩
    | 1, _, hq =>
      obtain ⟨⟨x, u, e1, e2, e3⟩, hf⟩ := hq
      exact ⟨⟨x, u, e1, e2, key s t hp hf e3⟩, hf.1, fun q a1 a2 => hf.2 q a1 (fun c => a2 (z_A_le hN _ c))⟩
/-- a call in the world with a row -/
theorem z_lift3 {kd mu : Nat} {l : Launch} {y : MethodName} {ws : List Cond} {lam : Nat} {a : Nat → Nat} {As : List Value} {st st' : z_St} {r : Int} (hkd : kd < 2) (h : z_MU kd mu l y ws lam z_T z_N a As st r st') : z_MU kd mu l y ws lam z_T3 169 a As (z_wr st) r (z_wr (z_kp st st')) := by
  refine z_lift hkd (fun k hk => z_Tp_n (by unfold z_N at hk; omega)) (by decide) (fun k hk => z_wr_n (by unfold z_N at hk; omega)) (fun k hk => ?_) (fun k h1 h2 => ?_) h
  · unfold z_N at hk
    rw [z_wr_n (by omega)]
    unfold z_kp
    rw [if_neg (by omega)]
  · unfold z_N at h1
    have : k = 168 := by omega
    subst this
    show z_wr _ 168 = z_wr _ 168
    rw [z_wr_s, z_wr_s]
    unfold z_kp
    rw [if_pos rfl]
def z_HS (κ : zK) (q : Nat) : Prop := match κ with
  | (_, _, _, _, s, _, _, _, _, _, _, _, _, _, _) => s.heap.size ≤ q
/-- a method that gives a new row -/
def z_MT (l : Launch) (y : MethodName) (ws : List Cond) (lam mu : Nat) (a : Nat → Nat) (As : List Value) (st st' : z_St) : Prop :=
  ∀ (D : va_G) (cA : Nat → ClassId) (sz : Nat), Met l y ws (z_rm lam mu (6 * mu)) (z_Pc z_T z_N a D cA st As sz) (va_Qr (fun (_ : Unit) => True) (fun _ q t => sz ≤ q ∧ va_P D vwCl (z_ws cA z_T3 (z_ap a 168 q) 169 (z_wr st')) t.heap) (z_A a z_N sz)) mu (6 * mu) (z_A a z_N sz)
def z_ET (mu : Nat) (κ : zK) (a : Nat → Nat) (o : z_St) : Prop := match κ with
  | (_, _, _, _, s, _, args, below, meth, _, Q, A, D, cA, _) => meth.sig.returnType = some (.array .long) ∧ ∃ B : Nat → State → Prop, Q = MQ below (va_Qr (fun (_ : Unit) => True) (fun _ q t => B q t) A) args s mu (6 * mu) A ∧ ∀ t : State, va_P D vwCl (z_ws cA z_T3 a 169 (z_wr o)) t.heap → B (a 168) t
theorem z_ofT {l : Launch} {mu : Nat} {y : MethodName} {cc : ByteArray} {n lam : Nat} {a : Nat → Nat} {As : List Value} {st : z_St} {st' : z_St} (htr : l.stackTraces = false) (hy : plainFor y = true) (hAs : (lg_sl As).length ≤ n)
    (body : ∀ κ : zK, z_C κ y.cls cc n lam mu (6 * mu) → z_AP κ a z_N → (∀ q, z_HS κ q → z_ET mu κ (z_ap a 168 q) st') → z_V κ z_T z_N a 0 0 0 (lv_args 0 As) [] st) : z_MT l y (z_w y cc n (some (.array .long))) lam mu a As st st' := by
  intro D cA sz
  refine z_metF (cc := cc) (maxL := n) (ret := some (.array .long)) hy rfl ?_
  intro p e s m args below meth c s₁ B hml hv
  obtain ⟨rfl, hsz, hP, hK, hX9, hinj⟩ := hv
  have hts := atoms_spec (ws := z_w y cc n (some (.array .long))) B.pre
  have hl := lv_entry As hAs
  rw [lg_entry_eq]
  subst hsz
  exact body (p, l, e, _, s, m, As.toArray, below, meth, c, _, z_A a z_N s.heap.size, D, cA, n)
    ⟨B.exec, B.bytes, hml, rfl, findClass_of_methodNamed B.named, fun w hw => hts w (List.mem_cons_of_mem _ hw), B.notSynchronized, hK, fun q h => Or.inr h, Nat.le_refl _, Nat.le_refl _, Nat.le_refl _, Nat.le_refl _, hX9, htr⟩
    ⟨hinj, fun k h => Or.inl ⟨k, h, rfl⟩⟩ (fun q hq => ⟨B.returns, _, rfl, fun t ht => ⟨by rw [z_ap_s]; exact hq, by rw [z_ap_s]; exact ht⟩⟩) s.heap [] _ hP va_S.rf hl
section
variable {κ : zK} {own : String} {cc : ByteArray} {n lam mc ms : Nat} {T : Nat → z_Ty} {N : Nat} {a : Nat → Nat} {cells slots pc : Nat} {L : List (Nat × Value)} {S : List Value} {st : z_St}
theorem z_retT {mu : Nat} (hc : z_C κ own cc n lam mc ms) (he : z_ET mu κ a st) (hd : decode cc pc = .ok (.areturn, 1)) : z_V κ z_T3 169 a mu (6 * mu) pc L [.ref (a 168)] (z_wr st) := by
  obtain ⟨p, l, e, R, s, m, args, below, meth, c, Q, A, D, cA, nL⟩ := κ
  obtain ⟨hx, hb, hml, hn, hown, hts, hlk, hK, hA, hfr, hlo, hce, hsl, hX9, htr⟩ := hc
  obtain ⟨hr, B, hQ, hB⟩ := he
  intro H locs ls hP hS hl
  subst hQ
  exact W.aret hx hb hr (Or.inr ⟨_, rfl⟩) (Or.inr ⟨_, rfl⟩) (fun t ht hW => ⟨⟨(), _, rfl, trivial, hB t (by rw [ht]; exact hP)⟩, by rw [ht]; exact hS.1, fun q h1 h2 => by rw [ht]; exact hS.2.1 q h1 h2⟩) hS.2.2 hd hlk
theorem z_newR (hc : z_C κ own cc n lam mc ms) (hap : z_AP κ a z_N) (hpt : z_pt st) (hw : Cond.arrayClass .long ∈ z_tbl) (hcm : cells + 1 ≤ mc) (hsm : slots + 44 ≤ ms) (hd : decode cc pc = .ok (.newarray .long, 2)) (kk : ∀ q : Nat, z_HS κ q → z_AP κ (z_ap a 168 q) 169 → z_V κ z_T3 169 (z_ap a 168 q) (cells + 1) (slots + 44) (pc + 2) L (.ref (z_ap a 168 q 168) :: S) (z_wr (z_zr st))) : z_V κ z_T z_N a cells slots pc L (.int (zI 44) :: S) st := by
  obtain ⟨p, l, e, R, s, m, args, below, meth, c, Q, A, D, cA, nL⟩ := κ
  obtain ⟨hx, hb, hml, hn, hown, hts, hlk, hK, hA, hfr, hlo, hce, hsl, hX9, htr⟩ := hc
  intro H locs ls hP hS hl
  have hcl : (zI (44 : Int)).toNatClampNeg = 44 := by decide
  refine va_newaK (atype := .long) hx hb (hts _ hw) rfl hd rfl (by decide) hcl (by decide) (by omega) (by omega) rfl fun H1 cA9 e1 z1 o1 hAr hNm => ?_
  have hcA : cA9 = cA 1 := by
    have h2 := (hK.2 1 _ rfl).2
    exact Option.some.inj (hNm.symm.trans h2)
  subst hcA
  have hlt : ∀ k : Nat, k < z_N → a k < H.size := fun k hk => (hP k _ (z_ws_get (cA := cA) (T := z_T) (a := a) (st := st) hk)).lt
  have hap' : z_inj (z_ap a 168 H.size) 169 ∧ ∀ k : Nat, k < 169 → A (z_ap a 168 H.size k) := by
    unfold z_N at hlt
    refine ⟨fun i j hi hj e9 => ?_, fun k hk => ?_⟩
    · by_cases c1 : i = 168
      · by_cases c2 : j = 168
        · omega
        · rw [c1, z_ap_s, z_ap_n c2] at e9
          have := hlt j (by omega)
          omega
      · by_cases c2 : j = 168
        · rw [c2, z_ap_s, z_ap_n c1] at e9
          have := hlt i (by omega)
          omega
        · rw [z_ap_n c1, z_ap_n c2] at e9
          exact hap.1 i j (by unfold z_N; omega) (by unfold z_N; omega) e9
    · by_cases c1 : k = 168
      · rw [c1, z_ap_s]; exact hA _ hS.1
      · rw [z_ap_n c1]; exact hap.2 k (by unfold z_N; omega)
  have K := kk H.size hS.1 hap'
  rw [z_ap_s] at K
  refine K H1 locs ls (fun k q hk => ?_) ⟨Nat.le_trans hS.1 (by omega), fun x h1 h2 => (o1 x (Nat.lt_of_lt_of_le h1 hS.1)).trans (hS.2.1 x h1 h2), hS.2.2⟩ hl
  obtain ⟨k1, rfl⟩ := z_ws_inv hk
  by_cases c : k = 168
  · subst c
    show va_at D vwCl (z_ap a 168 H.size 168, _) H1
    rw [z_ap_s]
    show H1[H.size]? = _
    rw [e1]
    show _ = some (vp_cell (cA 1) (z_arr a 168 (1, 1, 44, 0, 0) (z_wr (z_zr st) 168)))
    rw [z_wr_s]
    rfl
  · have hk' : k < z_N := by unfold z_N; omega
    have h9 := hP k _ (z_ws_get (cA := cA) (T := z_T) (a := a) (st := st) hk')
    have e9 : z_wr (z_zr st) (k : Int) = st (k : Int) := by
      rw [z_wr_n (by omega)]
      unfold z_zr
      rw [if_neg (by omega)]
    have hent : z_ent (z_ap a 168 H.size) cA (z_T3 k) k (z_wr (z_zr st) k) = z_ent a cA (z_T k) k (st k) := by
      rw [e9, show z_T3 k = z_T k from z_Tp_n c]
      exact z_ent_ap (Nat.le_refl _) (by omega) (fun e => by subst e; exact hpt)
    rw [hent, z_ap_n c]
    exact h9.kept (o1 _ h9.lt)
theorem z_callT (c2 s2 : Nat) {mu : Nat} {y : MethodName} {cc' : ByteArray} {n' np lam' idx : Nat} {S0 : List Value} {sJ t st' : z_St} (As : List Value) (hT : ∀ k : Nat, k < 168 → T k = z_T k) (hN : 168 ≤ N) (hs0 : ∀ k : Nat, k < 168 → st k = sJ k) (h1 : ∀ k : Nat, k < 168 → st' k = t k) (h2 : ∀ k : Nat, 168 ≤ k → k < N → st' k = st k) (h3 : st' (N : Int) = t 300) (hE : ∀ (cA : Nat → ClassId) (q k : Nat), k < N → z_ent (z_ap a N q) cA (T k) k (st' k) = z_ent a cA (T k) k (st' k)) (hpt : z_pt t) (hc : z_C κ own cc n lam mc ms) (hap : z_AP κ a N) (ho : z_oS y cc' n' (some (.array .long)) np) (hlk9 : Cond.methodLink own idx y ∈ z_tbl) (hM : ∀ l : Launch, l.stackTraces = false → z_MT l y (z_w y cc' n' (some (.array .long))) lam' mu a As sJ t) (hlam : lam' < lam) (hAs : As.length = np) (hS0 : S0 = As.reverse ++ S) (hW : (S.map fun v => v.category).sum ≤ 8) (hc2 : cells + mu ≤ c2) (hs2 : slots + 6 * mu ≤ s2) (hcl : c2 ≤ mc) (hsl9 : s2 ≤ ms) (hd : decode cc pc = .ok (.invokestatic idx, 3)) (kk : ∀ q : Nat, z_AP κ (z_ap a N q) (N + 1) → z_V κ (z_Tp T N) (N + 1) (z_ap a N q) c2 s2 (pc + 3) L (.ref (z_ap a N q N) :: S) st') : z_V κ T N a cells slots pc L S0 st := by
  have hap0 : z_AP κ a z_N := z_AP_le hap hN
  obtain ⟨p, l, e, R, s, m, args, below, meth, c, Q, A, D, cA, nL⟩ := κ
  obtain ⟨hx, hb, hml, hn, hown, hts, hlk, hK, hA, hfr, hlo, hce, hsl, hX9, htr⟩ := hc
  intro H locs ls hP hS hl
  have hP0 : va_P D vwCl (z_ws cA z_T a z_N sJ) H := z_ws_at (T := z_T) (N := z_N) (fun k hk => hT k hk) (fun k hk => hs0 k hk) hN hP
  have hcm : cells + mu ≤ R.cells := by omega
  have hsm : slots + 6 * mu ≤ R.slots := by omega
  refine va_callr (va_runS (As := As) (rest := S) ⟨hx, hb, hml.trans hn, hown, hts⟩ (hM l htr D cA H.size) ⟨z_callB ho.1 hts hlk9 hlam hfr hlo, hts _ ho.2⟩ ⟨z_blind, z_pre (As := As) hP0 hS hK hX9 hA hap0.1 hap0.2⟩ rfl hAs (by show ls.size = n; rw [hl.1, hn]) hS0 (lv_room hW) hd ⟨hcm, hsm⟩) hS (fun q _ h => z_A1 hS hA hap0.2 q h) (z_A1 hS hA hap0.2) (fun u q t9 H1 locs1 ht _ _ hB hsz hfr9 hS1 => ?_)
  obtain ⟨hq, hB⟩ := hB
  rw [ht] at hB
  have hlt : ∀ k : Nat, k < N → a k < H.size := fun k hk => (hP k _ (z_ws_get (cA := cA) (T := T) (a := a) (st := st) hk)).lt
  have hap' : z_inj (z_ap a N q) (N + 1) ∧ ∀ k : Nat, k < N + 1 → A (z_ap a N q k) := by
    refine ⟨fun i j hi hj e9 => ?_, fun k hk => ?_⟩
    · by_cases c1 : i = N
      · by_cases c2 : j = N
        · omega
        · rw [c1, z_ap_s, z_ap_n c2] at e9
          have := hlt j (by omega)
          omega
      · by_cases c2 : j = N
        · rw [c2, z_ap_s, z_ap_n c1] at e9
          have := hlt i (by omega)
          omega
        · rw [z_ap_n c1, z_ap_n c2] at e9
          exact hap.1 i j (by omega) (by omega) e9
    · by_cases c1 : k = N
      · rw [c1, z_ap_s]; exact hA _ (Nat.le_trans hS.1 hq)
      · rw [z_ap_n c1]; exact hap.2 k (by omega)
  have K := kk q hap'
  rw [z_ap_s] at K
  refine W.widen hc2 hs2 (K H1 locs1 ls (fun k x hk => ?_) hS1 hl)
  obtain ⟨k1, rfl⟩ := z_ws_inv hk
  by_cases ck : k = N
  · subst ck
    have h9 := hB 168 _ (z_ws_get (cA := cA) (T := z_T3) (a := z_ap a 168 q) (st := z_wr t) (k := 168) (N := 169) (by decide))
    show va_at D vwCl (z_ap a k q k, z_ent _ cA (z_Tp T k k) k (st' k)) H1
    rw [z_ap_s, z_Tp_s, h3]
    rw [z_ap_s, show z_T3 168 = .inr (1, 1, 44, 0, 0) from z_Tp_s, show z_wr t ((168 : Nat) : Int) = t 300 from z_wr_s] at h9
    exact h9
  · rw [z_ap_n ck, z_Tp_n ck, hE cA q k (by omega)]
    by_cases ck2 : k < 168
    · have h9 := hB k _ (z_ws_get (cA := cA) (T := z_T3) (a := z_ap a 168 q) (st := z_wr t) (k := k) (N := 169) (by omega))
      rw [z_ap_n (by omega), show z_T3 k = z_T k from z_Tp_n (by omega), z_wr_n (by omega), z_ent_ap (Nat.le_refl _) ck2 (fun e => by subst e; exact hpt)] at h9
      rw [hT k ck2, h1 k ck2]
      exact h9
    · have h9 := hP k _ (z_ws_get (cA := cA) (T := T) (a := a) (st := st) (k := k) (N := N) (by omega))
      rw [h2 k (by omega) (by omega)]
      refine h9.kept (hfr9 _ h9.lt ?_)
      rintro (⟨j, j1, j2⟩ | j)
      · have := hap.1 k j (by omega) (by unfold z_N at j1; omega) j2
        unfold z_N at j1
        omega
      · have := h9.lt
        omega
theorem z_forget {T' : Nat → z_Ty} {N' : Nat} {a' : Nat → Nat} {st' : z_St} (hN : N ≤ N') (ha : ∀ k : Nat, k < N → a' k = a k) (hE : ∀ (cA : Nat → ClassId) (k : Nat), k < N → z_ent a' cA (T' k) k (st' k) = z_ent a cA (T k) k (st k)) (kk : z_V κ T N a cells slots pc L S st) : z_V κ T' N' a' cells slots pc L S st' := by
  obtain ⟨p, l, e, R, s, m, args, below, meth, c, Q, A, D, cA, nL⟩ := κ
  intro H locs ls hP hS hl
  refine kk H locs ls (fun k x hk => ?_) hS hl
  obtain ⟨k1, rfl⟩ := z_ws_inv hk
  have h9 := hP k _ (z_ws_get (cA := cA) (T := T') (a := a') (st := st') (k := k) (N := N') (by omega))
  rw [ha k k1, hE cA k k1] at h9
  exact h9
theorem z_letV {α : Type} {F : z_St → Option α} {o : α} (h : z_let st F = some o) (kk : ∀ st, F st = some o → z_V κ z_T3 169 a cells slots pc L S (z_wr st)) : z_V κ z_T3 169 a cells slots pc L S (z_wr st) := kk st h
theorem z_lastR {α : Type} {F : z_St → Option α} {o : α} {i x : Int} (hc : z_C κ own cc n lam mc ms) (hap : z_AP κ a 169) (hd : decode cc pc = .ok (.lastore, 1)) (h : z_g (0 ≤ i ∧ i < 44) (z_let (z_up st 300 i x) F) = some o) (kk : ∀ st, F st = some o → z_V κ z_T3 169 a cells slots (pc + 1) L S (z_wr st)) : z_V κ z_T3 169 a cells slots pc L (.long (zJ x) :: .int (zI i) :: .ref (a 168) :: S) (z_wr st) := by
  obtain ⟨hi, h⟩ := z_g_some h
  refine z_last (k := 168) (kI := 168) (nI9 := 44) (F := fun s9 => some s9) (o := z_wr (z_up st 300 i x)) hc hap z_Tp_s (by decide) rfl rfl (by decide) hd (by rw [z_g_pos hi]; show some _ = some _; rw [z_wr_up]) (fun st9 hst9 => ?_)
  cases hst9
  exact kk _ h
end
