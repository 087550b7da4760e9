-- WHAT IS REFUSED CHANGES NOTHING: tell, act, tell, same
def z_sm (f g : Int → Int) : Int := if ∀ q : Nat, q < 44 → f q = g q then 1 else 0
set_option maxRecDepth 100000 in
set_option maxHeartbeats 4000000 in
theorem c_L_same {l : Launch} (hl : l.stackTraces = false) {T : Nat → z_Ty} {N i j : Nat} {a : Nat → Nat} {st : z_St} (hTi : T i = .inr (1, 1, 44, 0, 0)) (hTj : T j = .inr (1, 1, 44, 0, 0)) (hi : i < N) (hj : j < N) (hz : ∀ q : Nat, q < 44 → z64 (st i q) ∧ z64 (st j q)) : z_M 0 l yL_same cL_same 3 (some .boolean) 8 T N a [.ref (a i), .ref (a j)] st (z_sm (st i) (st j)) st := by
  refine z_of hl (by decide +kernel) (Nat.le_of_ble_eq_true rfl) (fun κ hc hap he => ?_)
  show z_V κ T N a 0 0 0 [(0, .ref (a i)), (1, .ref (a j))] [] st
  refine z_iconst hc dL_same_0 ?_
  refine z_istore_n (i := 2) [(2, .int (zI 0)), (0, .ref (a i)), (1, .ref (a j))] hc dL_same_1 rfl (by decide) rfl ?_
  have key : ∀ (m k : Nat), k + m = 44 → (∀ q : Nat, q < k → st i q = st j q) → z_V κ T N a 0 0 2 [(2, .int (zI (k : Int))), (0, .ref (a i)), (1, .ref (a j))] [] st := by
    intro m
    induction m with
    | zero =>
      intro k hk hq
      have e9 : z_sm (st i) (st j) = 1 := if_pos (fun q h => hq q (by omega))
      rw [e9] at he
      refine z_iload_n (i := 2) 0 hc dL_same_2 rfl rfl ?_
      refine z_bipush hc dL_same_3 rfl ?_
      refine z_icmp_ge (X := some ()) (Y := some ()) (o := ()) (tgt := 26) hc dL_same_5 (by decide) (by rw [z_g_pos ⟨⟨by omega, by omega⟩, ⟨by decide, by decide⟩⟩]; split <;> rfl) (fun e9 _ => by omega) (fun _ _ => ?_)
      refine z_iconst hc dL_same_26 ?_
      exact z_retZ hc he (Or.inr rfl) dL_same_27
    | succ m ih =>
      intro k hk hq
      have hz9 := hz k (by omega)
      refine z_iload_n (i := 2) 0 hc dL_same_2 rfl rfl ?_
      refine z_bipush hc dL_same_3 rfl ?_
      refine z_icmp_ge (X := some ()) (Y := some ()) (o := ()) (tgt := 26) hc dL_same_5 (by decide) (by rw [z_g_pos ⟨⟨by omega, by omega⟩, ⟨by decide, by decide⟩⟩]; split <;> rfl) (fun _ _ => ?_) (fun e9 _ => by omega)
      refine z_aload_n (i := 0) 1 hc dL_same_8 rfl rfl ?_
      refine z_iload_n (i := 2) 0 hc dL_same_9 rfl rfl ?_
      refine z_lald (kI := i) (nI9 := 44) (X := some ()) (o := ()) hc hTi hi rfl rfl (by decide) dL_same_10 (z_g_pos ⟨by omega, by omega⟩) (fun _ _ => ?_)
      refine z_aload_n (i := 1) 2 hc dL_same_11 rfl rfl ?_
      refine z_iload_n (i := 2) 0 hc dL_same_12 rfl rfl ?_
      refine z_lald (kI := j) (nI9 := 44) (X := some ()) (o := ()) hc hTj hj rfl rfl (by decide) dL_same_13 (z_g_pos ⟨by omega, by omega⟩) (fun _ _ => ?_)
      refine z_lcmp_eq (X := some ()) (Y := some ()) (o := ()) (tgt := 20) hc dL_same_14 dL_same_15 (by decide) (by rw [z_g_pos hz9]; split <;> rfl) (fun e9 _ => ?_) (fun e9 _ => ?_)
      · refine z_iinc [(2, .int (zI ((k : Int) + 1))), (0, .ref (a i)), (1, .ref (a j))] 0 hc dL_same_20 rfl (by decide) rfl ?_
        refine z_goto (tgt := 2) hc dL_same_23 (by decide) ?_
        exact ih (k + 1) (by omega) (fun q h => by
          by_cases c : q = k
          · subst c; exact e9
          · exact hq q (by omega))
      · have e8 : z_sm (st i) (st j) = 0 := if_neg (fun h => e9 (h k (by omega)))
        rw [e8] at he
        refine z_iconst hc dL_same_18 ?_
        exact z_retZ hc he (Or.inl rfl) dL_same_19
  exact key 44 0 rfl (fun q h => by omega)
noncomputable def J_L_tst (x4 x5 x6 : Int) (st : z_St) : Option (Int × z_St) :=
  z_b (J_L_tell st) fun t1 =>
  z_g (z_pt t1) <|
  z_b (J_L_act (z_ishr x4 9) x5 x6 t1) fun r =>
  z_g (z64 r.1 ∧ z_pt r.2) (if -1000 < r.1 then some (1, r.2) else
    z_b (J_L_tell r.2) fun t2 =>
    z_g (z_pt t2 ∧ ∀ q : Nat, q < 44 → z64 (t1 300 q) ∧ z64 (t2 300 q)) <| some (z_sm (t1 300) (t2 300), t2))
theorem z_ent_row {a a' : Nat → Nat} {cA : Nat → ClassId} {k : Nat} {f : Int → Int} : z_ent a' cA (.inr (1, 1, 44, 0, 0)) k f = z_ent a cA (.inr (1, 1, 44, 0, 0)) k f := rfl
set_option maxRecDepth 100000 in
set_option maxHeartbeats 4000000 in
theorem w_tst (c2 s2 : Nat) {κ : zK} {a : Nat → Nat} {b cells slots mc ms : Nat} {x3 x4 x5 x6 : Int} {st : z_St} {r : Int × z_St} (hc : z_C κ RL cL_law 10 30 mc ms) (hap : z_AP κ a z_N) (hr : J_L_tst x4 x5 x6 st = some r) (h1 : cells + 115 ≤ c2) (h2 : slots + 690 ≤ s2) (h3 : c2 ≤ mc) (h4 : s2 ≤ ms) (kk : z_V κ z_T z_N a c2 s2 188 [(0, .ref b), (1, .ref (a 0)), (3, .int (zI x3))] [.int (zI r.1)] r.2) : z_V κ z_T z_N a cells slots 145 [(0, .ref b), (1, .ref (a 0)), (3, .int (zI x3)), (4, .int (zI x4)), (5, .int (zI x5)), (6, .int (zI x6))] [] st := by
  unfold J_L_tst at hr
  obtain ⟨t1, ht1, hr⟩ := z_b_some hr
  obtain ⟨hp1, hr⟩ := z_g_some hr
  obtain ⟨q1, hq1, hr⟩ := z_b_some hr
  obtain ⟨⟨hz1, hp2⟩, hr⟩ := z_g_some hr
  have hN : z_N = 168 := rfl
  refine z_aload_n (i := 1) 1 hc dL_law_145 rfl rfl ?_
  refine z_callT (cells + 57) (slots + 342) (mu := 57) (T := z_T) (N := z_N) (sJ := st) (t := t1) (st' := z_wr t1) [.ref (a 0)] (fun _ _ => rfl) (Nat.le_refl _) (fun _ _ => rfl) (fun k hk => z_wr_n (by omega)) (fun k h5 h6 => by omega) z_wr_s (fun cA q k hk => ?_) hp1 hc hap o_L_tell ml_RL_167 (fun l hl => c_L_tell hl ht1) (by decide) rfl rfl (Nat.le_of_ble_eq_true rfl) (Nat.le_refl _) (Nat.le_refl _) (by omega) (by omega) dL_law_146 (fun q hap2 => ?_)
  · rw [z_wr_n (by omega)]
    exact z_ent_ap (Nat.le_refl _) (by omega) (fun e => by subst e; exact hp1)
  show z_V κ z_T3 169 (z_ap a 168 q) (cells + 57) (slots + 342) 149 [(0, .ref b), (1, .ref (z_ap a 168 q 0)), (3, .int (zI x3)), (4, .int (zI x4)), (5, .int (zI x5)), (6, .int (zI x6))] [.ref (z_ap a 168 q 168)] (z_wr t1)
  have hap2 : z_AP κ (z_ap a 168 q) 169 := hap2
  obtain ⟨a1, ha1⟩ : ∃ a1, z_ap a 168 q = a1 := ⟨_, rfl⟩
  have ea : ∀ k : Nat, k < 168 → a1 k = a k := fun k hk => by rw [← ha1]; exact z_ap_n (by omega)
  rw [ha1] at hap2 ⊢
  refine z_astore [(9, .ref (a1 168)), (0, .ref b), (1, .ref (a1 0)), (3, .int (zI x3)), (4, .int (zI x4)), (5, .int (zI x5)), (6, .int (zI x6))] hc dL_law_149 (by decide) rfl ?_
  refine z_aload_n (i := 1) 2 hc dL_law_151 rfl rfl ?_
  refine z_iload 4 hc dL_law_152 rfl ?_
  refine z_bipush hc dL_law_154 rfl ?_
  refine z_ishr_r hc dL_law_156 ?_
  refine z_iload 5 hc dL_law_157 rfl ?_
  refine z_iload 6 hc dL_law_159 rfl ?_
  refine z_callUJ (cells + 58) (slots + 348) (mu := 1) [.ref (a1 0), .int (zI (z_ishr x4 9)), .int (zI x5), .int (zI x6)] hc hap2 o_L_act ml_RL_171 (fun l hl => z_lift3 (by decide) (c_L_act hl hq1)) (by decide) rfl rfl (Nat.le_of_ble_eq_true rfl) (by omega) (by omega) (by omega) (by omega) dL_law_161 ?_
  refine z_ldc2 (-1000) hc kc_RL_175 dL_law_164 rfl ?_
  -- back to the world of 168 cells
  have fin : ∀ (T' : Nat → z_Ty) (N' : Nat) (a' : Nat → Nat) (pc : Nat) (L : List (Nat × Value)) (S : List Value) (s9 s' : z_St) (cc9 ss9 : Nat), 168 ≤ N' → (∀ k : Nat, k < 168 → T' k = z_T k ∧ a' k = a k ∧ s' k = s9 k) → z_pt s9 → (∀ (cA : Nat → ClassId) (k : Nat), k < 168 → z_ent a' cA (z_T k) k (s9 k) = z_ent a cA (z_T k) k (s9 k)) → z_V κ z_T z_N a cc9 ss9 pc L S s9 → z_V κ T' N' a' cc9 ss9 pc L S s' := fun T' N' a' pc L S s9 s' cc9 ss9 g1 g2 g3 g4 g5 => z_forget (N := z_N) (T := z_T) (st := s9) (a := a) g1 (fun k hk => (g2 k hk).2.1) (fun cA k hk => by rw [(g2 k hk).1, (g2 k hk).2.2]; exact g4 cA k hk) g5
  have ent1 : ∀ (s9 : z_St), z_pt s9 → ∀ (cA : Nat → ClassId) (k : Nat), k < 168 → z_ent a1 cA (z_T k) k (s9 k) = z_ent a cA (z_T k) k (s9 k) := fun s9 g3 cA k hk => by
    rw [← ha1]
    exact z_ent_ap (Nat.le_refl _) hk (fun e => by subst e; exact g3)
  have kp : ∀ x : Int, x < 168 → z_wr (z_kp t1 q1.2) x = q1.2 x := fun x hx => by
    rw [z_wr_n hx]; unfold z_kp; rw [if_neg (by omega)]
  by_cases c9 : -1000 < q1.1
  · rw [if_pos c9] at hr
    have hr := Option.some.inj hr
    subst hr
    refine z_lcmp_gt (X := some ()) (Y := some ()) (o := ()) (tgt := 183) hc dL_law_167 dL_law_168 (by decide) (by rw [z_g_pos ⟨hz1, by decide, by decide⟩]; split <;> rfl) (fun _ _ => ?_) (fun e9 _ => absurd c9 e9)
    refine z_iconst hc dL_law_183 ?_
    refine z_goto (tgt := 188) hc dL_law_184 (by decide) ?_
    refine fin _ _ _ _ _ _ q1.2 _ _ _ (by decide) (fun k hk => ⟨z_Tp_n (by omega), ea k hk, kp k (by omega)⟩) hp2 (ent1 _ hp2) ?_
    rw [ea 0 (by decide)]
    refine z_sub [(0, .ref b), (1, .ref (a 0)), (3, .int (zI x3))] [1, 2, 3] rfl ?_
    exact z_wide (by omega) (by omega) kk
  · rw [if_neg c9] at hr
    obtain ⟨t2, ht2, hr⟩ := z_b_some hr
    obtain ⟨⟨hp3, hz2⟩, hr⟩ := z_g_some hr
    have hr := Option.some.inj hr
    subst hr
    refine z_lcmp_gt (X := some ()) (Y := some ()) (o := ()) (tgt := 183) hc dL_law_167 dL_law_168 (by decide) (by rw [z_g_pos ⟨hz1, by decide, by decide⟩]; split <;> rfl) (fun e9 _ => absurd e9 c9) (fun _ _ => ?_)
    refine z_aload 0 hc dL_law_171 rfl ?_
    refine z_aload_n (i := 1) 2 hc dL_law_173 rfl rfl ?_
    obtain ⟨s4, hs4⟩ : ∃ s4 : z_St, s4 = fun x => if x = 169 then t2 300 else if x = 168 then t1 300 else t2 x := ⟨_, rfl⟩
    have s4n : ∀ k : Int, k < 168 → s4 k = t2 k := fun k hk => by rw [hs4]; show (if k = 169 then _ else if k = 168 then _ else _) = _; rw [if_neg (by omega), if_neg (by omega)]
    have s48 : s4 168 = t1 300 := by rw [hs4]; rfl
    have s49 : s4 169 = t2 300 := by rw [hs4]; rfl
    refine z_callT (cells + 115) (slots + 690) (mu := 57) (T := z_T3) (N := 169) (sJ := q1.2) (t := t2) (st' := s4) [.ref (a1 0)] (fun k hk => z_Tp_n (by omega)) (by decide) (fun k hk => kp k (by omega)) (fun k hk => s4n k (by omega)) (fun k h5 h6 => ?_) s49 (fun cA q9 k hk => ?_) hp3 hc hap2 o_L_tell ml_RL_167 (fun l hl => c_L_tell hl ht2) (by decide) rfl rfl (Nat.le_of_ble_eq_true rfl) (by omega) (by omega) (by omega) (by omega) dL_law_174 (fun q9 hap3 => ?_)
    · have : k = 168 := by omega
      subst this
      show s4 168 = z_wr _ 168
      rw [s48, z_wr_s]
      unfold z_kp
      rw [if_pos rfl]
    · by_cases c : k = 168
      · subst c
        rw [show z_T3 168 = .inr (1, 1, 44, 0, 0) from z_Tp_s]
        exact z_ent_row
      · rw [show z_T3 k = z_T k from z_Tp_n c, s4n k (by omega)]
        exact z_ent_ap (by decide) (by omega) (fun e => by subst e; exact hp3)
    have hTi : z_Tp z_T3 169 168 = .inr (1, 1, 44, 0, 0) := by rw [z_Tp_n (by decide)]; exact z_Tp_s
    have e168 : z_ap a1 169 q9 168 = a1 168 := z_ap_n (by decide)
    rw [← e168]
    refine z_callSI (T := z_Tp z_T3 169) (N := 170) (a := z_ap a1 169 q9) [.ref (z_ap a1 169 q9 168), .ref (z_ap a1 169 q9 169)] hc hap3 o_L_same ml_RL_177 (fun l hl => c_L_same (i := 168) (j := 169) hl hTi z_Tp_s (by decide) (by decide) (fun q hq => by
      show z64 (s4 168 q) ∧ z64 (s4 169 q)
      rw [s48, s49]; exact hz2 q hq)) (by decide) rfl rfl (Nat.le_of_ble_eq_true rfl) (by omega) (by omega) dL_law_177 ?_
    show z_V κ _ _ _ _ _ _ _ [.int (zI (z_sm (s4 168) (s4 169)))] _
    rw [s48, s49]
    have ent2 : ∀ (cA : Nat → ClassId) (k : Nat), k < 168 → z_ent (z_ap a1 169 q9) cA (z_T k) k (t2 k) = z_ent a cA (z_T k) k (t2 k) := fun cA k hk => (z_ent_ap (by decide) hk (fun e => by subst e; exact hp3)).trans (ent1 t2 hp3 cA k hk)
    refine fin _ _ _ _ _ _ t2 _ _ _ (by decide) (fun k hk => ⟨by rw [z_Tp_n (by omega)]; exact z_Tp_n (by omega), by rw [z_ap_n (by omega)]; exact ea k hk, s4n k (by omega)⟩) hp3 ent2 ?_
    rw [ea 0 (by decide)]
    refine z_sub [(0, .ref b), (1, .ref (a 0)), (3, .int (zI x3))] [1, 2, 3] rfl ?_
    by_cases c8 : z_sm (t1 300) (t2 300) = 0
    · rw [c8]
      refine z_if_eq (X := some ()) (Y := some ()) (o := ()) (tgt := 187) hc dL_law_180 (by decide) (by rw [z_g_pos ⟨by decide, by decide⟩]; split <;> rfl) (fun _ _ => ?_) (fun e9 _ => absurd rfl e9)
      refine z_iconst hc dL_law_187 ?_
      rw [c8] at kk
      exact z_wide (by omega) (by omega) kk
    · have c7 : z_sm (t1 300) (t2 300) = 1 := by
        unfold z_sm at c8 ⊢
        split at c8
        · exact if_pos (by assumption)
        · exact absurd rfl c8
      rw [c7]
      refine z_if_eq (X := some ()) (Y := some ()) (o := ()) (tgt := 187) hc dL_law_180 (by decide) (by rw [z_g_pos ⟨by decide, by decide⟩]; split <;> rfl) (fun e9 _ => absurd e9 (by decide)) (fun _ _ => ?_)
      refine z_iconst hc dL_law_183 ?_
      refine z_goto (tgt := 188) hc dL_law_184 (by decide) ?_
      rw [c7] at kk
      exact z_wide (by omega) (by omega) kk
