-- THE CLASS'S LATTICE
theorem q_tr_end {g : z_St} {o w t : Nat} (ht : (t : Int) = g 168 2) : q_tr g o w t = some (q_dear g w 5) := by
  unfold q_tr
  rw [e_mins_0 (fun i a b => by
    cases i with
    | zero => omega
    | succ i =>
      rw [q_bh_s, show (g 168 2).toNat - t = 0 by omega]; rfl), if_neg (by omega)]
  unfold q_bh
  rw [if_pos ht]
theorem q_tr_0 {g : z_St} {w t : Nat} (ht : ¬ (t : Int) = g 168 2) : q_tr g 0 w t = none := by
  show e_min none (q_bh g 0 w t) = none
  unfold q_bh
  rw [if_neg ht]; rfl
def q_trv (g : z_St) (o w t k v : Nat) : Option Int := e_add (e_add (q_tr g o v (t + 1 + k)) (q_tab g v t ((t + 1 + k : Nat) : Int))) (some (q_dear g w v))
def q_trk (g : z_St) (o w t k : Nat) : Option Int := e_mins (q_trv g o w t k) (g 168 18).toNat
theorem q_tr_s {g : z_St} {o w t : Nat} (ht : ¬ (t : Int) = g 168 2) : q_tr g (o + 1) w t = e_mins (q_trk g o w t) ((g 168 2).toNat - t) := by
  have h0 : q_bh g 0 w t = none := by unfold q_bh; rw [if_neg ht]
  show e_mins (fun m => q_bh g m w t) (o + 1 + 1) = _
  rw [e_mins_shift (F := fun m => q_bh g m w t) h0]
  show e_mins (fun m => q_bh g (1 + m) w t) (o + 1) = _
  rw [e_mins_congr (g := fun m => e_mins (q_bhk g m w t) ((g 168 2).toNat - t)) (fun m hm => by rw [Nat.add_comm]; rfl), e_mins_swap]
  refine e_mins_congr fun k hk => ?_
  unfold q_trk
  show e_mins (fun m => e_mins (q_bhv g m w t k) (g 168 18).toNat) (o + 1) = _
  rw [e_mins_swap]
  refine e_mins_congr fun v hv => ?_
  unfold q_trv q_tr q_bhv
  rw [e_mins_add, e_mins_add]
def q_ldv (g : z_St) (o w f c v : Nat) : Option Int := e_add (e_add (q_ld g o v c) (q_tab g v c f)) (some (q_dear g v w))
def q_ldk (g : z_St) (o w f c : Nat) : Option Int := e_mins (q_ldv g o w f c) (g 168 18).toNat
theorem q_ld_s {g : z_St} {o w f : Nat} : q_ld g (o + 1) w f = e_mins (q_ldk g o w f) f := by
  rw [q_ld_succ]
  unfold q_ldk
  show _ = e_mins (fun c => e_mins (fun v => q_ldv g o w f c v) (g 168 18).toNat) f
  rw [e_mins_swap]
  refine e_mins_congr fun v hv => ?_
  unfold q_bf q_ldv
  rw [e_mins_add]
def q_ltOK (g : z_St) (D : Nat → Nat → Nat → Prop) (st : z_St) : Prop := ∀ o w f : Nat, o < 4 → w < g 168 18 → f ≤ g 168 2 → D o w f → st 146 (((o : Int) * 5 + w) * 17 + f) = e_I 1152921504606846976 (q_ld g o w f) ∧ st 147 (((o : Int) * 5 + w) * 17 + f) = e_I 1152921504606846976 (q_tr g o w f)
def q_hd (g st : z_St) : Prop := st 144 3 = g 168 18 ∧ st 144 4 = g 168 2
theorem s_X3_index {a b c : Int} {st : z_St} : J_X3_index a b c st = some ((a * 5 + b) * 17 + c) := rfl
theorem s_X3_arcAt {a b c : Int} {st : z_St} : J_X3_arcAt a b c st = some (289 * a + 17 * b + c) := by
  show some _ = some _
  congr 1; omega
theorem q_toll {g st : z_St} (hT : q_TC g st) {a b : Int} (ha : -1 ≤ a ∧ a < g 168 18) (hb : -1 ≤ b ∧ b < g 168 18) (hw : g 168 18 ≤ 5) : J_X0_toll a b st = some (q_dear g (if a = -1 then 5 else a) (if b = -1 then 5 else b)) := by
  rw [s_X0_toll (by omega), hT.2.2.2.2 a b ha.1 ha.2 hb.1 hb.2]
  have e : ∀ x : Int, q_ix (x + 1) = if x = -1 then 5 else x := fun x => by
    unfold q_ix
    by_cases h : x = -1
    · rw [if_pos (by omega), if_pos h]
    · rw [if_neg (by omega), if_neg h]; omega
  rw [e, e]
theorem s_X3_leadOf {g st : z_St} (hB : q_RB g) (hT : q_TC g st) (hd : q_hd g st) {o w f : Nat} (ho : o < 4) (hw : w < g 168 18) (hf : f ≤ g 168 2) (h : q_ltOK g (fun o' _ _ => o' < o) st) : J_X3_leadOf o w f st = some (e_I 1152921504606846976 (q_ld g o w f)) := by
  have hw1 := hB.2.2.2.2.1.1
  have hf1 := hB.1.1
  refine q_of ?_
  simp only [J_X3_leadOf, J_X3_leadOf_21, q_g, q_b, q_let, q_ite, q_some, z32, z64, true_or, or_true, true_and, and_true]
  refine ⟨by omega, fun h0 => ⟨by omega, fun h1 => ?_, fun h1 => ?_⟩, fun h0 => ?_⟩
  · have o0 : o = 0 := by omega
    have f0 : f = 0 := by omega
    subst o0 f0
    refine q_eq (q_toll hT (by omega) (by omega) hw1.2) ?_
    rw [if_pos rfl, if_neg (by omega)]
    rfl
  · have o0 : o = 0 := by omega
    subst o0
    unfold q_ld
    rw [if_neg (by omega)]; rfl
  · cases o with
    | zero => exact absurd rfl h0
    | succ o =>
      rw [q_ld_s]
      have hV : ∀ c v, c < f → v < (g 168 18).toNat → e_bd 10000000000000 (q_ldv g o w f c v) := fun c v hc hv => e_bd_le (by omega) (e_bd_add (e_bd_add (q_ld_bd hB (o := o) (w := v) (f := c) (by omega) (by omega)) (q_tab_bd hB (by omega))) (e_bd_some (q_dear_w hB (v := v) (w := w) (by omega) hw).1))
      refine q_eq (q_mins0 none (q_ldk g o w f) f (by omega) (fun c hc => ?_) (fun x => ?_)) rfl
      · refine q_of ?_
        simp only [J_X3_leadOf_b30, q_g, q_b, q_let, q_ite, q_some, z32, z64, true_or, or_true, true_and, and_true]
        refine ⟨by omega, fun _ => ?_, fun h9 => by omega⟩
        refine q_eq (q_mins0 _ (q_ldv g o w f c) (g 168 18).toNat (by omega) (fun v hv => ?_) (fun x => ?_)) rfl
        · refine q_of ?_
          simp only [J_X3_leadOf_b39, q_g, q_b, q_let, q_ite, q_some, z32, z64, true_or, or_true, true_and, and_true]
          rw [hd.1]
          refine ⟨by omega, fun _ => ?_, fun h9 => by omega⟩
          refine q_eq s_X3_index ?_
          refine ⟨by omega, ?_⟩
          refine q_eq (s_X0_span (by omega)) ?_
          refine q_eq (q_toll hT (by omega) (by omega) hw1.2) ?_
          rw [if_neg (by omega), if_neg (by omega)]
          have e1 := (h o v c (by omega) (by omega) (by omega) (by omega)).1
          have e2 := hT.2.2.1 v c f (by omega) (by omega) (by omega) (by omega) (by omega)
          have hv1 := e_bd_le (C := 4000000000000) (by omega) (q_ld_bd hB (o := o) (w := v) (f := c) (by omega) (by omega))
          have hv2 : e_bd 600000010000 (q_tab g v c f) := q_tab_bd hB (by omega)
          have hv3 := q_dear_w hB (v := v) (w := w) (by omega) hw
          have hv4 : e_bd 10000000000000 (e_min (e_min none (e_mins (q_ldk g o w f) c)) (e_mins (q_ldv g o w f c) v)) := e_bd_min (e_bd_mins fun i hi => e_bd_mins fun u hu => hV i u (by omega) hu) (e_bd_mins fun u hu => hV c u hc (by omega))
          have c1 := e_I_le (K := 1152921504606846976) hv1 (by decide) (by decide)
          have c2 := e_I_le (K := 1152921504606846976) hv2 (by decide) (by decide)
          have c4 := e_I_le (K := 1152921504606846976) hv4 (by decide) (by decide)
          rw [show ((((o + 1 : Nat) : Int) - 1) * 5 + v) * 17 + c = ((o : Int) * 5 + v) * 17 + c by omega, e1, e2]
          refine ⟨by omega, ?_⟩
          rw [e_acc3 hv4 hv1 hv2 hv3.1 (by decide) (by decide) (by decide) (by decide) (by decide)]
          rfl
        · refine q_of ?_
          simp only [J_X3_leadOf_b39, q_g, q_b, q_let, q_ite, q_some, z32, z64, true_or, or_true, true_and, and_true]
          rw [hd.1]
          exact ⟨by omega, fun h9 => by omega, fun _ => trivial⟩
      · refine q_of ?_
        simp only [J_X3_leadOf_b30, q_g, q_b, q_let, q_ite, q_some, z32, z64, true_or, or_true, true_and, and_true]
        exact ⟨by omega, fun h9 => by omega, fun _ => trivial⟩
theorem s_X3_trailOf {g st : z_St} (hB : q_RB g) (hT : q_TC g st) (hd : q_hd g st) {o w t : Nat} (ho : o < 4) (hw : w < g 168 18) (ht : t ≤ g 168 2) (h : ∀ v k : Nat, 1 ≤ o → v < g 168 18 → k ≤ g 168 2 → st 147 ((((o : Int) - 1) * 5 + v) * 17 + k) = e_I 1152921504606846976 (q_tr g (o - 1) v k)) : J_X3_trailOf o w t st = some (e_I 1152921504606846976 (q_tr g o w t)) := by
  have hw1 := hB.2.2.2.2.1.1
  have hf1 := hB.1.1
  refine q_of ?_
  simp only [J_X3_trailOf, q_g, q_b, q_let, q_ite, q_some, z32, z64, true_or, or_true, true_and, and_true]
  rw [hd.2]
  refine ⟨by omega, fun h1 => ?_, fun h1 => ?_⟩
  · refine q_eq (q_toll hT (by omega) (by omega) hw1.2) ?_
    rw [if_neg (by omega), if_pos rfl, q_tr_end h1]; rfl
  · cases o with
    | zero =>
      refine q_eq (q_fold (fun _ => 1152921504606846976) ((t : Int) + 1) 0 (by decide) (fun k hk => by omega) ?_) ?_
      · refine q_of ?_
        simp only [J_X3_trailOf_b26, q_g, q_b, q_let, q_ite, q_some, z32, z64, true_or, or_true, true_and, and_true]
        rw [hd.2]
        exact ⟨by omega, fun _ => trivial, fun _ => ⟨by omega, fun h9 => absurd h9 (by decide), fun _ => trivial⟩⟩
      · rw [q_tr_0 h1]; rfl
    | succ o =>
      rw [q_tr_s h1]
      have hV : ∀ k v : Nat, (t : Int) + 1 + k ≤ g 168 2 → v < (g 168 18).toNat → e_bd 10000000000000 (q_trv g o w t k v) := fun k v hk hv => e_bd_le (by omega) (e_bd_add (e_bd_add (q_tr_bd hB (o := o) (w := v) (t := t + 1 + k) (by omega) (by omega) (by omega)) (q_tab_bd hB (by omega))) (e_bd_some (q_dear_w hB (v := w) (w := v) hw (by omega)).1))
      refine q_eq (q_mins none (q_trk g o w t) ((t : Int) + 1) ((g 168 2).toNat - t) (by omega) (fun k hk => ?_) (fun x => ?_)) rfl
      · refine q_of ?_
        simp only [J_X3_trailOf_b26, q_g, q_b, q_let, q_ite, q_some, z32, z64, true_or, or_true, true_and, and_true]
        rw [hd.2]
        refine ⟨by omega, fun h9 => by omega, fun _ => ⟨by omega, fun _ => ?_, fun h9 => by omega⟩⟩
        refine q_eq (q_mins0 _ (q_trv g o w t k) (g 168 18).toNat (by omega) (fun v hv => ?_) (fun x => ?_)) rfl
        · refine q_of ?_
          simp only [J_X3_trailOf_b42, q_g, q_b, q_let, q_ite, q_some, z32, z64, true_or, or_true, true_and, and_true]
          rw [hd.1]
          refine ⟨by omega, fun _ => ?_, fun h9 => by omega⟩
          refine q_eq s_X3_index ?_
          refine ⟨by omega, ?_⟩
          refine q_eq (s_X0_span (by omega)) ?_
          refine q_eq (q_toll hT (by omega) (by omega) hw1.2) ?_
          rw [if_neg (by omega), if_neg (by omega)]
          have e1 := h v (t + 1 + k) (by omega) (by omega) (by omega)
          rw [show o + 1 - 1 = o by omega] at e1
          have e2 := hT.2.2.1 v t ((t + 1 + k : Nat) : Int) (by omega) (by omega) (by omega) (by omega) (by omega)
          have hv1 := q_tr_bd hB (o := o) (w := v) (t := t + 1 + k) (by omega) (by omega) (by omega)
          have hv2 : e_bd 600000010000 (q_tab g v t ((t + 1 + k : Nat) : Int)) := q_tab_bd hB (by omega)
          have hv3 := q_dear_w hB (v := w) (w := v) hw (by omega)
          have hv4 : e_bd 10000000000000 (e_min (e_min none (e_mins (q_trk g o w t) k)) (e_mins (q_trv g o w t k) v)) := e_bd_min (e_bd_mins fun i hi => e_bd_mins fun u hu => hV i u (by omega) hu) (e_bd_mins fun u hu => hV k u (by omega) (by omega))
          have c1 := e_I_le (K := 1152921504606846976) hv1 (by decide) (by decide)
          have c2 := e_I_le (K := 1152921504606846976) hv2 (by decide) (by decide)
          have c4 := e_I_le (K := 1152921504606846976) hv4 (by decide) (by decide)
          rw [show (t : Int) + 1 + k = ((t + 1 + k : Nat) : Int) by omega, e1, e2]
          refine ⟨by omega, ?_⟩
          rw [e_acc3 hv4 hv1 hv2 hv3.1 (by decide) (by decide) (by decide) (by decide) (by decide)]
          rfl
        · refine q_of ?_
          simp only [J_X3_trailOf_b42, q_g, q_b, q_let, q_ite, q_some, z32, z64, true_or, or_true, true_and, and_true]
          rw [hd.1]
          exact ⟨by omega, fun h9 => by omega, fun _ => trivial⟩
      · refine q_of ?_
        simp only [J_X3_trailOf_b26, q_g, q_b, q_let, q_ite, q_some, z32, z64, true_or, or_true, true_and, and_true]
        rw [hd.2]
        exact ⟨by omega, fun _ => trivial, fun h9 => by omega⟩
theorem s_X3_leastThrough {g st : z_St} (hB : q_RB g) (h : q_ltOK g (fun _ _ _ => True) st) {w f t : Nat} (hw : w < g 168 18) (hf : f ≤ g 168 2) (ht : t ≤ g 168 2) : J_X3_leastThrough w f t st = some (e_I 1152921504606846976 (e_mins (q_ot g w f t) 4)) := by
  have hw1 := hB.2.2.2.2.1.1
  have hf1 := hB.1.1
  refine q_of ?_
  simp only [J_X3_leastThrough, q_g, q_b, q_let, q_ite, q_some, z32, z64, true_or, or_true, true_and, and_true]
  have hV : ∀ o, o < 4 → e_bd 8000000000000 (q_ot g w f t o) := fun o ho => e_bd_le (by omega) (e_bd_add (q_ld_bd hB (o := o) hw hf) (q_tr_bd hB (o := 3 - o) (by omega) hw ht))
  refine q_eq (q_mins0 none (q_ot g w f t) 4 (by omega) (fun o ho => ?_) (fun x => ?_)) rfl
  · refine q_of ?_
    simp only [J_X3_leastThrough_b8, q_g, q_b, q_let, q_ite, q_some, z32, z64, true_or, or_true, true_and, and_true]
    refine ⟨by omega, fun _ => ?_, fun h9 => by omega⟩
    refine q_eq s_X3_index ?_
    refine ⟨by omega, ?_⟩
    refine q_eq s_X3_index ?_
    refine ⟨by omega, ?_⟩
    have e1 := (h o w f ho hw hf trivial).1
    have e2 := (h (3 - o) w t (by omega) hw ht trivial).2
    rw [show ((3 - o : Nat) : Int) = 3 - (o : Int) by omega] at e2
    have hv1 := e_bd_le (C := 4000000000000) (by omega) (q_ld_bd hB (o := o) hw hf)
    have hv2 := q_tr_bd hB (o := 3 - o) (by omega) hw ht
    have hv4 : e_bd 10000000000000 (e_min none (e_mins (q_ot g w f t) o)) := e_bd_le (by decide) (e_bd_mins fun i hi => hV i (by omega))
    have c1 := e_I_le (K := 1152921504606846976) hv1 (by decide) (by decide)
    have c2 := e_I_le (K := 1152921504606846976) hv2 (by decide) (by decide)
    have c4 := e_I_le (K := 1152921504606846976) hv4 (by decide) (by decide)
    rw [e1, e2]
    refine ⟨by omega, ?_⟩
    rw [e_acc hv4 hv1 hv2 (by decide) (by decide) (by decide) (by decide) (by decide)]
    rfl
  · refine q_of ?_
    simp only [J_X3_leastThrough_b8, q_g, q_b, q_let, q_ite, q_some, z32, z64, true_or, or_true, true_and, and_true]
    exact ⟨by omega, fun h9 => by omega, fun _ => trivial⟩
