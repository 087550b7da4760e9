noncomputable def J_L_law_360 (f : Int → Int) (n9 : Int) (v2 v3 : Int) (st : z_St) : Option ((Int × Int × z_St) ⊕ (Int × z_St)) :=
  some (.inl (v2, v3 + 1, st))
set_option maxRecDepth 100000 in
set_option maxHeartbeats 4000000 in
theorem w_L_law_360 {κ : zK} {a : Nat → Nat} {b n9 : Nat} {f : Int → Int} {v2 v3 : Int} {st : z_St} {o : (Int × Int × z_St) ⊕ (Int × z_St)} (hc : z_C κ RL cL_law 10 30 7255 (6 * 7255)) (hap : z_AP κ a z_N) (hX : z_SX κ b n9 f) (k1 : ∀ s9 : (Int × Int × z_St), o = .inl s9 → z_V κ z_T z_N a (5032 + 117 * (s9.2.1 : Int).toNat) (6 * (5032 + 117 * (s9.2.1 : Int).toNat)) 27 [(0, .ref b), (1, .ref (a 0)), (2, .int (zI s9.1)), (3, .int (zI s9.2.1))] [] s9.2.2) (k2 : ∀ x9 : (Int × z_St), o = .inr x9 → z_V κ z_T z_N a 7255 (6 * 7255) 366 [(2, .int (zI x9.1))] [] x9.2) (hv9 : 0 ≤ v3 ∧ v3 ≤ 18) (h : J_L_law_360 f (n9 : Int) v2 v3 st = some o) : z_V κ z_T z_N a ((5032 + 117 * (v3 : Int).toNat) + 117) (6 * ((5032 + 117 * (v3 : Int).toNat) + 117)) 360 [(0, .ref b), (1, .ref (a 0)), (2, .int (zI v2)), (3, .int (zI v3))] [] st := by
  unfold J_L_law_360 at h
  refine z_iinc [(3, .int (zI (v3 + 1))), (0, .ref b), (1, .ref (a 0)), (2, .int (zI v2))] 3 hc dL_law_360 rfl (by decide) rfl ?_
  refine z_goto (tgt := 27) hc dL_law_363 (by decide) ?_
  refine z_sub [(0, .ref b), (1, .ref (a 0)), (2, .int (zI v2)), (3, .int (zI (v3 + 1)))] [1, 2, 3, 0] rfl ?_
  refine z_wide (cells' := (5032 + 117 * (v3 + 1 : Int).toNat)) (slots' := 6 * (5032 + 117 * (v3 + 1 : Int).toNat)) (by omega) (by omega) ?_
  exact k1 _ (Option.some.inj h).symm
noncomputable def J_L_law_134 (f : Int → Int) (n9 : Int) (v3 s0 : Int) (st : z_St) : Option ((Int × Int × z_St) ⊕ (Int × z_St)) :=
  J_L_law_360 f n9 s0 v3 st
set_option maxRecDepth 100000 in
set_option maxHeartbeats 4000000 in
theorem w_L_law_134 {κ : zK} {a : Nat → Nat} {b n9 : Nat} {f : Int → Int} {v3 s0 : Int} {st : z_St} {o : (Int × Int × z_St) ⊕ (Int × z_St)} (hc : z_C κ RL cL_law 10 30 7255 (6 * 7255)) (hap : z_AP κ a z_N) (hX : z_SX κ b n9 f) (k1 : ∀ s9 : (Int × Int × z_St), o = .inl s9 → z_V κ z_T z_N a (5032 + 117 * (s9.2.1 : Int).toNat) (6 * (5032 + 117 * (s9.2.1 : Int).toNat)) 27 [(0, .ref b), (1, .ref (a 0)), (2, .int (zI s9.1)), (3, .int (zI s9.2.1))] [] s9.2.2) (k2 : ∀ x9 : (Int × z_St), o = .inr x9 → z_V κ z_T z_N a 7255 (6 * 7255) 366 [(2, .int (zI x9.1))] [] x9.2) (hv9 : 0 ≤ v3 ∧ v3 ≤ 18) (h : J_L_law_134 f (n9 : Int) v3 s0 st = some o) : z_V κ z_T z_N a ((5032 + 117 * (v3 : Int).toNat) + 3) (6 * ((5032 + 117 * (v3 : Int).toNat) + 3)) 134 [(0, .ref b), (1, .ref (a 0)), (3, .int (zI v3))] [.int (zI s0)] st := by
  unfold J_L_law_134 at h
  refine z_istore_n (i := 2) [(2, .int (zI s0)), (0, .ref b), (1, .ref (a 0)), (3, .int (zI v3))] hc dL_law_134 rfl (by decide) rfl ?_
  refine z_goto (tgt := 360) hc dL_law_135 (by decide) ?_
  refine z_sub [(0, .ref b), (1, .ref (a 0)), (2, .int (zI s0)), (3, .int (zI v3))] [1, 2, 0, 3] rfl ?_
  refine z_wide (cells' := ((5032 + 117 * (v3 : Int).toNat) + 117)) (slots' := 6 * ((5032 + 117 * (v3 : Int).toNat) + 117)) (by omega) (by omega) ?_
  exact w_L_law_360 hc hap hX k1 k2 hv9 h
noncomputable def J_L_law_133 (f : Int → Int) (n9 : Int) (v3 : Int) (st : z_St) : Option ((Int × Int × z_St) ⊕ (Int × z_St)) :=
  J_L_law_134 f n9 v3 0 st
set_option maxRecDepth 100000 in
set_option maxHeartbeats 4000000 in
theorem w_L_law_133 {κ : zK} {a : Nat → Nat} {b n9 : Nat} {f : Int → Int} {v3 : Int} {st : z_St} {o : (Int × Int × z_St) ⊕ (Int × z_St)} (hc : z_C κ RL cL_law 10 30 7255 (6 * 7255)) (hap : z_AP κ a z_N) (hX : z_SX κ b n9 f) (k1 : ∀ s9 : (Int × Int × z_St), o = .inl s9 → z_V κ z_T z_N a (5032 + 117 * (s9.2.1 : Int).toNat) (6 * (5032 + 117 * (s9.2.1 : Int).toNat)) 27 [(0, .ref b), (1, .ref (a 0)), (2, .int (zI s9.1)), (3, .int (zI s9.2.1))] [] s9.2.2) (k2 : ∀ x9 : (Int × z_St), o = .inr x9 → z_V κ z_T z_N a 7255 (6 * 7255) 366 [(2, .int (zI x9.1))] [] x9.2) (hv9 : 0 ≤ v3 ∧ v3 ≤ 18) (h : J_L_law_133 f (n9 : Int) v3 st = some o) : z_V κ z_T z_N a ((5032 + 117 * (v3 : Int).toNat) + 3) (6 * ((5032 + 117 * (v3 : Int).toNat) + 3)) 133 [(0, .ref b), (1, .ref (a 0)), (3, .int (zI v3))] [] st := by
  unfold J_L_law_133 at h
  refine z_iconst hc dL_law_133 ?_
  refine z_sub [(0, .ref b), (1, .ref (a 0)), (3, .int (zI v3))] [0, 1, 2] rfl ?_
  exact w_L_law_134 hc hap hX k1 k2 hv9 h
noncomputable def J_L_law_188 (f : Int → Int) (n9 : Int) (v3 s0 : Int) (st : z_St) : Option ((Int × Int × z_St) ⊕ (Int × z_St)) :=
  J_L_law_360 f n9 s0 v3 st
set_option maxRecDepth 100000 in
set_option maxHeartbeats 4000000 in
theorem w_L_law_188 {κ : zK} {a : Nat → Nat} {b n9 : Nat} {f : Int → Int} {v3 s0 : Int} {st : z_St} {o : (Int × Int × z_St) ⊕ (Int × z_St)} (hc : z_C κ RL cL_law 10 30 7255 (6 * 7255)) (hap : z_AP κ a z_N) (hX : z_SX κ b n9 f) (k1 : ∀ s9 : (Int × Int × z_St), o = .inl s9 → z_V κ z_T z_N a (5032 + 117 * (s9.2.1 : Int).toNat) (6 * (5032 + 117 * (s9.2.1 : Int).toNat)) 27 [(0, .ref b), (1, .ref (a 0)), (2, .int (zI s9.1)), (3, .int (zI s9.2.1))] [] s9.2.2) (k2 : ∀ x9 : (Int × z_St), o = .inr x9 → z_V κ z_T z_N a 7255 (6 * 7255) 366 [(2, .int (zI x9.1))] [] x9.2) (hv9 : 0 ≤ v3 ∧ v3 ≤ 18) (h : J_L_law_188 f (n9 : Int) v3 s0 st = some o) : z_V κ z_T z_N a ((5032 + 117 * (v3 : Int).toNat) + 117) (6 * ((5032 + 117 * (v3 : Int).toNat) + 117)) 188 [(0, .ref b), (1, .ref (a 0)), (3, .int (zI v3))] [.int (zI s0)] st := by
  unfold J_L_law_188 at h
  refine z_istore_n (i := 2) [(2, .int (zI s0)), (0, .ref b), (1, .ref (a 0)), (3, .int (zI v3))] hc dL_law_188 rfl (by decide) rfl ?_
  refine z_goto (tgt := 360) hc dL_law_189 (by decide) ?_
  refine z_sub [(0, .ref b), (1, .ref (a 0)), (2, .int (zI s0)), (3, .int (zI v3))] [1, 2, 0, 3] rfl ?_
  exact w_L_law_360 hc hap hX k1 k2 hv9 h
noncomputable def J_L_law_255 (f : Int → Int) (n9 : Int) (v3 s0 : Int) (st : z_St) : Option ((Int × Int × z_St) ⊕ (Int × z_St)) :=
  z_b (J_L_rises s0 st) fun r16 =>
  J_L_law_360 f n9 r16.1 v3 r16.2
set_option maxRecDepth 100000 in
set_option maxHeartbeats 4000000 in
theorem w_L_law_255 {κ : zK} {a : Nat → Nat} {b n9 : Nat} {f : Int → Int} {v3 s0 : Int} {st : z_St} {o : (Int × Int × z_St) ⊕ (Int × z_St)} (hc : z_C κ RL cL_law 10 30 7255 (6 * 7255)) (hap : z_AP κ a z_N) (hX : z_SX κ b n9 f) (k1 : ∀ s9 : (Int × Int × z_St), o = .inl s9 → z_V κ z_T z_N a (5032 + 117 * (s9.2.1 : Int).toNat) (6 * (5032 + 117 * (s9.2.1 : Int).toNat)) 27 [(0, .ref b), (1, .ref (a 0)), (2, .int (zI s9.1)), (3, .int (zI s9.2.1))] [] s9.2.2) (k2 : ∀ x9 : (Int × z_St), o = .inr x9 → z_V κ z_T z_N a 7255 (6 * 7255) 366 [(2, .int (zI x9.1))] [] x9.2) (hv9 : 0 ≤ v3 ∧ v3 ≤ 18) (h : J_L_law_255 f (n9 : Int) v3 s0 st = some o) : z_V κ z_T z_N a ((5032 + 117 * (v3 : Int).toNat) + 2) (6 * ((5032 + 117 * (v3 : Int).toNat) + 2)) 255 [(0, .ref b), (1, .ref (a 0)), (3, .int (zI v3))] [.int (zI s0), .ref (a 0)] st := by
  unfold J_L_law_255 at h
  obtain ⟨r16, hr16, h⟩ := z_b_some h
  refine z_callUI ((5032 + 117 * (v3 : Int).toNat) + 7) (6 * ((5032 + 117 * (v3 : Int).toNat) + 7)) (mu := 5) [.ref (a 0), .int (zI s0)] hc hap o_L_rises ml_RL_185 (fun l hl => c_L_rises hl hr16) (by decide) rfl rfl (Nat.le_of_ble_eq_true rfl) (by omega) (by omega) (by omega) (by omega) dL_law_255 ?_
  refine z_istore_n (i := 2) [(2, .int (zI r16.1)), (0, .ref b), (1, .ref (a 0)), (3, .int (zI v3))] hc dL_law_258 rfl (by decide) rfl ?_
  refine z_goto (tgt := 360) hc dL_law_259 (by decide) ?_
  refine z_sub [(0, .ref b), (1, .ref (a 0)), (2, .int (zI r16.1)), (3, .int (zI v3))] [1, 2, 0, 3] rfl ?_
  refine z_wide (cells' := ((5032 + 117 * (v3 : Int).toNat) + 117)) (slots' := 6 * ((5032 + 117 * (v3 : Int).toNat) + 117)) (by omega) (by omega) ?_
  exact w_L_law_360 hc hap hX k1 k2 hv9 h
noncomputable def J_L_law_330 (f : Int → Int) (n9 : Int) (v3 v7 s0 : Int) (st : z_St) : Option ((Int × Int × z_St) ⊕ (Int × z_St)) :=
  z_b (J_L_lattice s0 v7 st) fun r22 =>
  J_L_law_360 f n9 r22.1 v3 r22.2
set_option maxRecDepth 100000 in
set_option maxHeartbeats 4000000 in
theorem w_L_law_330 {κ : zK} {a : Nat → Nat} {b n9 : Nat} {f : Int → Int} {v3 v7 s0 : Int} {st : z_St} {o : (Int × Int × z_St) ⊕ (Int × z_St)} (hc : z_C κ RL cL_law 10 30 7255 (6 * 7255)) (hap : z_AP κ a z_N) (hX : z_SX κ b n9 f) (k1 : ∀ s9 : (Int × Int × z_St), o = .inl s9 → z_V κ z_T z_N a (5032 + 117 * (s9.2.1 : Int).toNat) (6 * (5032 + 117 * (s9.2.1 : Int).toNat)) 27 [(0, .ref b), (1, .ref (a 0)), (2, .int (zI s9.1)), (3, .int (zI s9.2.1))] [] s9.2.2) (k2 : ∀ x9 : (Int × z_St), o = .inr x9 → z_V κ z_T z_N a 7255 (6 * 7255) 366 [(2, .int (zI x9.1))] [] x9.2) (hv9 : 0 ≤ v3 ∧ v3 ≤ 18) (h : J_L_law_330 f (n9 : Int) v3 v7 s0 st = some o) : z_V κ z_T z_N a ((5032 + 117 * (v3 : Int).toNat) + 2) (6 * ((5032 + 117 * (v3 : Int).toNat) + 2)) 330 [(0, .ref b), (1, .ref (a 0)), (3, .int (zI v3)), (7, .int (zI v7))] [.long (zJ s0), .ref (a 0)] st := by
  unfold J_L_law_330 at h
  refine z_iload 3 hc dL_law_330 rfl ?_
  obtain ⟨r22, hr22, h⟩ := z_b_some h
  refine z_callUI ((5032 + 117 * (v3 : Int).toNat) + 14) (6 * ((5032 + 117 * (v3 : Int).toNat) + 14)) (mu := 12) [.ref (a 0), .long (zJ s0), .int (zI v7)] hc hap o_L_lattice ml_RL_193 (fun l hl => c_L_lattice hl hr22) (by decide) rfl rfl (Nat.le_of_ble_eq_true rfl) (by omega) (by omega) (by omega) (by omega) dL_law_332 ?_
  refine z_istore_n (i := 2) [(2, .int (zI r22.1)), (0, .ref b), (1, .ref (a 0)), (3, .int (zI v3)), (7, .int (zI v7))] hc dL_law_335 rfl (by decide) rfl ?_
  refine z_goto (tgt := 360) hc dL_law_336 (by decide) ?_
  refine z_sub [(0, .ref b), (1, .ref (a 0)), (2, .int (zI r22.1)), (3, .int (zI v3))] [1, 2, 0, 3] rfl ?_
  refine z_wide (cells' := ((5032 + 117 * (v3 : Int).toNat) + 117)) (slots' := 6 * ((5032 + 117 * (v3 : Int).toNat) + 117)) (by omega) (by omega) ?_
  exact w_L_law_360 hc hap hX k1 k2 hv9 h
noncomputable def J_L_law_359 (f : Int → Int) (n9 : Int) (v3 s0 : Int) (st : z_St) : Option ((Int × Int × z_St) ⊕ (Int × z_St)) :=
  J_L_law_360 f n9 s0 v3 st
set_option maxRecDepth 100000 in
set_option maxHeartbeats 4000000 in
theorem w_L_law_359 {κ : zK} {a : Nat → Nat} {b n9 : Nat} {f : Int → Int} {v3 s0 : Int} {st : z_St} {o : (Int × Int × z_St) ⊕ (Int × z_St)} (hc : z_C κ RL cL_law 10 30 7255 (6 * 7255)) (hap : z_AP κ a z_N) (hX : z_SX κ b n9 f) (k1 : ∀ s9 : (Int × Int × z_St), o = .inl s9 → z_V κ z_T z_N a (5032 + 117 * (s9.2.1 : Int).toNat) (6 * (5032 + 117 * (s9.2.1 : Int).toNat)) 27 [(0, .ref b), (1, .ref (a 0)), (2, .int (zI s9.1)), (3, .int (zI s9.2.1))] [] s9.2.2) (k2 : ∀ x9 : (Int × z_St), o = .inr x9 → z_V κ z_T z_N a 7255 (6 * 7255) 366 [(2, .int (zI x9.1))] [] x9.2) (hv9 : 0 ≤ v3 ∧ v3 ≤ 18) (h : J_L_law_359 f (n9 : Int) v3 s0 st = some o) : z_V κ z_T z_N a ((5032 + 117 * (v3 : Int).toNat) + 112) (6 * ((5032 + 117 * (v3 : Int).toNat) + 112)) 359 [(0, .ref b), (1, .ref (a 0)), (3, .int (zI v3))] [.int (zI s0)] st := by
  unfold J_L_law_359 at h
  refine z_istore_n (i := 2) [(2, .int (zI s0)), (0, .ref b), (1, .ref (a 0)), (3, .int (zI v3))] hc dL_law_359 rfl (by decide) rfl ?_
  refine z_sub [(0, .ref b), (1, .ref (a 0)), (2, .int (zI s0)), (3, .int (zI v3))] [1, 2, 0, 3] rfl ?_
  refine z_wide (cells' := ((5032 + 117 * (v3 : Int).toNat) + 117)) (slots' := 6 * ((5032 + 117 * (v3 : Int).toNat) + 117)) (by omega) (by omega) ?_
  exact w_L_law_360 hc hap hX k1 k2 hv9 h
noncomputable def J_L_law_138 (f : Int → Int) (n9 : Int) (v3 v4 v5 v6 v7 v8 : Int) (st : z_St) : Option ((Int × Int × z_St) ⊕ (Int × z_St)) :=
  z_g (z32 v6 ∧ z32 10) (if v6 < 10 then
    z_b (J_L_tst v4 v5 v6 st) fun r12 =>
    J_L_law_188 f n9 v3 r12.1 r12.2
  else
    z_g (z32 v6 ∧ z32 12) (if v6 < 12 then
      z_b (J_L_weighs (z_ishr v4 9) v5 v8 st) fun r13 =>
      J_L_law_360 f n9 r13.1 v3 r13.2
    else
      z_g (z32 v6 ∧ z32 12) (if v6 = 12 then
        z_b (J_L_low v5 7 st) fun r14 =>
        z_g (z32 r14) (if r14 = 0 then
          z_b (J_L_low (z_ishr v5 3) 800 st) fun r15 =>
          J_L_law_255 f n9 v3 r15 st
        else
          z_b (J_L_low (z_ishr v5 3) 5 st) fun r17 =>
          J_L_law_255 f n9 v3 r17 st)
      else
        z_g (z32 v6 ∧ z32 13) (if v6 = 13 then
          z_b (J_L_low v5 900 st) fun r18 =>
          z_g (z32 r18) <|
          z_b (J_L_low (z_ishr v5 10) 6 st) fun r19 =>
          z_b (J_L_finds r18 (1 + r19) st) fun r20 =>
          J_L_law_360 f n9 r20.1 v3 r20.2
        else
          z_g (z32 v6 ∧ z32 14) (if v6 = 14 then
            z_b (J_L_low v5 3 st) fun r21 =>
            z_g (z32 r21) (if r21 = 0 then
              J_L_law_330 f n9 v3 v7 0 st
            else
              z_b (J_L_low (z_ishr v5 2) 1500 st) fun r23 =>
              z_g (z32 r23) <|
              J_L_law_330 f n9 v3 v7 r23 st)
          else
            z_g (z32 v6 ∧ z32 15) (if v6 = 15 then
              z_b (J_L_paths v7 st) fun r24 =>
              J_L_law_359 f n9 v3 r24.1 r24.2
            else
              z_b (J_L_fits st) fun r25 =>
              J_L_law_359 f n9 v3 r25.1 r25.2))))))
set_option maxRecDepth 100000 in
set_option maxHeartbeats 4000000 in
theorem w_L_law_138 {κ : zK} {a : Nat → Nat} {b n9 : Nat} {f : Int → Int} {v3 v4 v5 v6 v7 v8 : Int} {st : z_St} {o : (Int × Int × z_St) ⊕ (Int × z_St)} (hc : z_C κ RL cL_law 10 30 7255 (6 * 7255)) (hap : z_AP κ a z_N) (hX : z_SX κ b n9 f) (k1 : ∀ s9 : (Int × Int × z_St), o = .inl s9 → z_V κ z_T z_N a (5032 + 117 * (s9.2.1 : Int).toNat) (6 * (5032 + 117 * (s9.2.1 : Int).toNat)) 27 [(0, .ref b), (1, .ref (a 0)), (2, .int (zI s9.1)), (3, .int (zI s9.2.1))] [] s9.2.2) (k2 : ∀ x9 : (Int × z_St), o = .inr x9 → z_V κ z_T z_N a 7255 (6 * 7255) 366 [(2, .int (zI x9.1))] [] x9.2) (hv9 : 0 ≤ v3 ∧ v3 ≤ 18) (h : J_L_law_138 f (n9 : Int) v3 v4 v5 v6 v7 v8 st = some o) : z_V κ z_T z_N a ((5032 + 117 * (v3 : Int).toNat) + 2) (6 * ((5032 + 117 * (v3 : Int).toNat) + 2)) 138 [(0, .ref b), (1, .ref (a 0)), (3, .int (zI v3)), (4, .int (zI v4)), (5, .int (zI v5)), (6, .int (zI v6)), (7, .int (zI v7)), (8, .int (zI v8))] [] st := by
  unfold J_L_law_138 at h
  refine z_iload 5 hc dL_law_138 rfl ?_
  refine z_bipush hc dL_law_140 rfl ?_
  refine z_icmp_ge (tgt := 192) hc dL_law_142 (by decide) h (fun c142 h => ?_) (fun c142 h => ?_)
  · obtain ⟨r12, hr12, h⟩ := z_b_some h
    refine z_sub [(0, .ref b), (1, .ref (a 0)), (3, .int (zI v3)), (4, .int (zI v4)), (5, .int (zI v5)), (6, .int (zI v6))] [0, 1, 2, 3, 4, 5] rfl ?_
    refine w_tst ((5032 + 117 * (v3 : Int).toNat) + 117) (6 * ((5032 + 117 * (v3 : Int).toNat) + 117)) hc hap hr12 (by omega) (by omega) (by omega) (by omega) ?_
    refine z_sub [(0, .ref b), (1, .ref (a 0)), (3, .int (zI v3))] [0, 1, 2] rfl ?_
    exact w_L_law_188 hc hap hX k1 k2 hv9 h
  · refine z_iload 5 hc dL_law_192 rfl ?_
    refine z_bipush hc dL_law_194 rfl ?_
    refine z_icmp_ge (tgt := 216) hc dL_law_196 (by decide) h (fun c196 h => ?_) (fun c196 h => ?_)
    · refine z_aload_n (i := 1) 1 hc dL_law_199 rfl rfl ?_
      refine z_iload 3 hc dL_law_200 rfl ?_
      refine z_bipush hc dL_law_202 rfl ?_
      refine z_ishr_r hc dL_law_204 ?_
      refine z_iload 4 hc dL_law_205 rfl ?_
      refine z_iload 7 hc dL_law_207 rfl ?_
      obtain ⟨r13, hr13, h⟩ := z_b_some h
      refine z_callUI ((5032 + 117 * (v3 : Int).toNat) + 8) (6 * ((5032 + 117 * (v3 : Int).toNat) + 8)) (mu := 6) [.ref (a 0), .int (zI (z_ishr v4 9)), .int (zI v5), .int (zI v8)] hc hap o_L_weighs ml_RL_181 (fun l hl => c_L_weighs hl hr13) (by decide) rfl rfl (Nat.le_of_ble_eq_true rfl) (by omega) (by omega) (by omega) (by omega) dL_law_209 ?_
      refine z_istore_n (i := 2) [(2, .int (zI r13.1)), (0, .ref b), (1, .ref (a 0)), (3, .int (zI v3)), (4, .int (zI v4)), (5, .int (zI v5)), (6, .int (zI v6)), (7, .int (zI v7)), (8, .int (zI v8))] hc dL_law_212 rfl (by decide) rfl ?_
      refine z_goto (tgt := 360) hc dL_law_213 (by decide) ?_
      refine z_sub [(0, .ref b), (1, .ref (a 0)), (2, .int (zI r13.1)), (3, .int (zI v3))] [1, 2, 0, 3] rfl ?_
      refine z_wide (cells' := ((5032 + 117 * (v3 : Int).toNat) + 117)) (slots' := 6 * ((5032 + 117 * (v3 : Int).toNat) + 117)) (by omega) (by omega) ?_
      exact w_L_law_360 hc hap hX k1 k2 hv9 h
    · refine z_iload 5 hc dL_law_216 rfl ?_
      refine z_bipush hc dL_law_218 rfl ?_
      refine z_icmp_ne (tgt := 262) hc dL_law_220 (by decide) h (fun c220 h => ?_) (fun c220 h => ?_)
      · refine z_aload_n (i := 1) 1 hc dL_law_223 rfl rfl ?_
        refine z_iload 4 hc dL_law_224 rfl ?_
        refine z_bipush hc dL_law_226 rfl ?_
        obtain ⟨r14, hr14, h⟩ := z_b_some h
        refine z_callSI [.int (zI v5), .int (zI 7)] hc hap o_L_low ml_RL_129 (fun l hl => c_L_low hl hr14) (by decide) rfl rfl (Nat.le_of_ble_eq_true rfl) (by omega) (by omega) dL_law_228 ?_
        refine z_if_ne (tgt := 247) hc dL_law_231 (by decide) h (fun c231 h => ?_) (fun c231 h => ?_)
        · refine z_iload 4 hc dL_law_234 rfl ?_
          refine z_iconst hc dL_law_236 ?_
          refine z_ishr_r hc dL_law_237 ?_
          refine z_sipush hc dL_law_238 rfl ?_
          obtain ⟨r15, hr15, h⟩ := z_b_some h
          refine z_callSI [.int (zI (z_ishr v5 3)), .int (zI 800)] hc hap o_L_low ml_RL_129 (fun l hl => c_L_low hl hr15) (by decide) rfl rfl (Nat.le_of_ble_eq_true rfl) (by omega) (by omega) dL_law_241 ?_
          refine z_goto (tgt := 255) hc dL_law_244 (by decide) ?_
          refine z_sub [(0, .ref b), (1, .ref (a 0)), (3, .int (zI v3))] [0, 1, 2] rfl ?_
          exact w_L_law_255 hc hap hX k1 k2 hv9 h
        · refine z_iload 4 hc dL_law_247 rfl ?_
          refine z_iconst hc dL_law_249 ?_
          refine z_ishr_r hc dL_law_250 ?_
          refine z_iconst hc dL_law_251 ?_
          obtain ⟨r17, hr17, h⟩ := z_b_some h
          refine z_callSI [.int (zI (z_ishr v5 3)), .int (zI 5)] hc hap o_L_low ml_RL_129 (fun l hl => c_L_low hl hr17) (by decide) rfl rfl (Nat.le_of_ble_eq_true rfl) (by omega) (by omega) dL_law_252 ?_
          refine z_sub [(0, .ref b), (1, .ref (a 0)), (3, .int (zI v3))] [0, 1, 2] rfl ?_
          exact w_L_law_255 hc hap hX k1 k2 hv9 h
      · refine z_iload 5 hc dL_law_262 rfl ?_
        refine z_bipush hc dL_law_264 rfl ?_
        refine z_icmp_ne (tgt := 298) hc dL_law_266 (by decide) h (fun c266 h => ?_) (fun c266 h => ?_)
        · refine z_aload_n (i := 1) 1 hc dL_law_269 rfl rfl ?_
          refine z_iload 4 hc dL_law_270 rfl ?_
          refine z_sipush hc dL_law_272 rfl ?_
          obtain ⟨r18, hr18, h⟩ := z_b_some h
          refine z_callSI [.int (zI v5), .int (zI 900)] hc hap o_L_low ml_RL_129 (fun l hl => c_L_low hl hr18) (by decide) rfl rfl (Nat.le_of_ble_eq_true rfl) (by omega) (by omega) dL_law_275 ?_
          refine z_i2l hc dL_law_278 h (fun h => ?_)
          refine z_iconst hc dL_law_279 ?_
          refine z_iload 4 hc dL_law_280 rfl ?_
          refine z_bipush hc dL_law_282 rfl ?_
          refine z_ishr_r hc dL_law_284 ?_
          refine z_bipush hc dL_law_285 rfl ?_
          obtain ⟨r19, hr19, h⟩ := z_b_some h
          refine z_callSI [.int (zI (z_ishr v5 10)), .int (zI 6)] hc hap o_L_low ml_RL_129 (fun l hl => c_L_low hl hr19) (by decide) rfl rfl (Nat.le_of_ble_eq_true rfl) (by omega) (by omega) dL_law_287 ?_
          refine z_iadd hc dL_law_290 ?_
          obtain ⟨r20, hr20, h⟩ := z_b_some h
          refine z_callUI ((5032 + 117 * (v3 : Int).toNat) + 12) (6 * ((5032 + 117 * (v3 : Int).toNat) + 12)) (mu := 10) [.ref (a 0), .long (zJ r18), .int (zI (1 + r19))] hc hap o_L_finds ml_RL_189 (fun l hl => c_L_finds hl hr20) (by decide) rfl rfl (Nat.le_of_ble_eq_true rfl) (by omega) (by omega) (by omega) (by omega) dL_law_291 ?_
          refine z_istore_n (i := 2) [(2, .int (zI r20.1)), (0, .ref b), (1, .ref (a 0)), (3, .int (zI v3)), (4, .int (zI v4)), (5, .int (zI v5)), (6, .int (zI v6)), (7, .int (zI v7)), (8, .int (zI v8))] hc dL_law_294 rfl (by decide) rfl ?_
          refine z_goto (tgt := 360) hc dL_law_295 (by decide) ?_
          refine z_sub [(0, .ref b), (1, .ref (a 0)), (2, .int (zI r20.1)), (3, .int (zI v3))] [1, 2, 0, 3] rfl ?_
          refine z_wide (cells' := ((5032 + 117 * (v3 : Int).toNat) + 117)) (slots' := 6 * ((5032 + 117 * (v3 : Int).toNat) + 117)) (by omega) (by omega) ?_
          exact w_L_law_360 hc hap hX k1 k2 hv9 h
        · refine z_iload 5 hc dL_law_298 rfl ?_
          refine z_bipush hc dL_law_300 rfl ?_
          refine z_icmp_ne (tgt := 339) hc dL_law_302 (by decide) h (fun c302 h => ?_) (fun c302 h => ?_)
          · refine z_aload_n (i := 1) 1 hc dL_law_305 rfl rfl ?_
            refine z_iload 4 hc dL_law_306 rfl ?_
            refine z_iconst hc dL_law_308 ?_
            obtain ⟨r21, hr21, h⟩ := z_b_some h
            refine z_callSI [.int (zI v5), .int (zI 3)] hc hap o_L_low ml_RL_129 (fun l hl => c_L_low hl hr21) (by decide) rfl rfl (Nat.le_of_ble_eq_true rfl) (by omega) (by omega) dL_law_309 ?_
            refine z_if_ne (tgt := 319) hc dL_law_312 (by decide) h (fun c312 h => ?_) (fun c312 h => ?_)
            · refine z_lconst 0 hc dL_law_315 rfl ?_
              refine z_goto (tgt := 330) hc dL_law_316 (by decide) ?_
              refine z_sub [(0, .ref b), (1, .ref (a 0)), (3, .int (zI v3)), (7, .int (zI v7))] [0, 1, 2, 6] rfl ?_
              exact w_L_law_330 hc hap hX k1 k2 hv9 h
            · refine z_iload 4 hc dL_law_319 rfl ?_
              refine z_iconst hc dL_law_321 ?_
              refine z_ishr_r hc dL_law_322 ?_
              refine z_sipush hc dL_law_323 rfl ?_
              obtain ⟨r23, hr23, h⟩ := z_b_some h
              refine z_callSI [.int (zI (z_ishr v5 2)), .int (zI 1500)] hc hap o_L_low ml_RL_129 (fun l hl => c_L_low hl hr23) (by decide) rfl rfl (Nat.le_of_ble_eq_true rfl) (by omega) (by omega) dL_law_326 ?_
              refine z_i2l hc dL_law_329 h (fun h => ?_)
              refine z_sub [(0, .ref b), (1, .ref (a 0)), (3, .int (zI v3)), (7, .int (zI v7))] [0, 1, 2, 6] rfl ?_
              exact w_L_law_330 hc hap hX k1 k2 hv9 h
          · refine z_iload 5 hc dL_law_339 rfl ?_
            refine z_bipush hc dL_law_341 rfl ?_
            refine z_icmp_ne (tgt := 355) hc dL_law_343 (by decide) h (fun c343 h => ?_) (fun c343 h => ?_)
            · refine z_aload_n (i := 1) 1 hc dL_law_346 rfl rfl ?_
              refine z_iload 6 hc dL_law_347 rfl ?_
              obtain ⟨r24, hr24, h⟩ := z_b_some h
              refine z_callUI ((5032 + 117 * (v3 : Int).toNat) + 112) (6 * ((5032 + 117 * (v3 : Int).toNat) + 112)) (mu := 110) [.ref (a 0), .int (zI v7)] hc hap o_L_paths ml_RL_196 (fun l hl => c_L_paths hl hr24) (by decide) rfl rfl (Nat.le_of_ble_eq_true rfl) (by omega) (by omega) (by omega) (by omega) dL_law_349 ?_
              refine z_goto (tgt := 359) hc dL_law_352 (by decide) ?_
              refine z_sub [(0, .ref b), (1, .ref (a 0)), (3, .int (zI v3))] [0, 1, 2] rfl ?_
              exact w_L_law_359 hc hap hX k1 k2 hv9 h
            · refine z_aload_n (i := 1) 1 hc dL_law_355 rfl rfl ?_
              obtain ⟨r25, hr25, h⟩ := z_b_some h
              refine z_callUI ((5032 + 117 * (v3 : Int).toNat) + 5) (6 * ((5032 + 117 * (v3 : Int).toNat) + 5)) (mu := 3) [.ref (a 0)] hc hap o_L_fits ml_RL_199 (fun l hl => c_L_fits hl hr25) (by decide) rfl rfl (Nat.le_of_ble_eq_true rfl) (by omega) (by omega) (by omega) (by omega) dL_law_356 ?_
              refine z_sub [(0, .ref b), (1, .ref (a 0)), (3, .int (zI v3))] [0, 1, 2] rfl ?_
              refine z_wide (cells' := ((5032 + 117 * (v3 : Int).toNat) + 112)) (slots' := 6 * ((5032 + 117 * (v3 : Int).toNat) + 112)) (by omega) (by omega) ?_
              exact w_L_law_359 hc hap hX k1 k2 hv9 h
noncomputable def J_L_law_b27 (f : Int → Int) (n9 : Int) (v2 v3 : Int) (st : z_St) : Option ((Int × Int × z_St) ⊕ (Int × z_St)) :=
  z_g (0 ≤ v3 ∧ v3 ≤ 18) <|
  z_g (z32 v3 ∧ z32 18) (if v3 < 18 then
    z_g (z32 v2) (if v2 = 0 then
      some (.inr (v2, st))
    else
      z_b (J_L_cell f n9 ((2 * v3) + 10) st) fun r4 =>
      z_b (J_L_cell f n9 ((2 * v3) + 11) st) fun r5 =>
      z_b (J_L_low (z_ishr r4 4) 17 st) fun r6 =>
      z_b (J_L_ask 27 0 0 st) fun r7 =>
      z_b (J_L_ask 27 2 0 r7.2) fun r8 =>
      z_g (z32 r6) (if r6 = 0 then
        z_g (z32 r7.1 ∧ z32 5) (if 5 < r7.1 then
          z_b (J_X11_silence r8.2) fun r9 =>
          z_let (z_gh r9.2) fun st10 =>
          z_g (z32 r9.1 ∧ z32 r7.1) (if r9.1 = r7.1 then
            z_b (J_L_ask 27 0 0 st10) fun r11 =>
            z_g (z64 r11.1 ∧ z64 0) (if r11.1 = 0 then
              J_L_law_134 f n9 v3 1 r11.2
            else
              J_L_law_133 f n9 v3 r11.2)
          else
            J_L_law_133 f n9 v3 st10)
        else
          J_L_law_138 f n9 v3 r4 r5 r6 r7.1 r8.1 r8.2)
      else
        J_L_law_138 f n9 v3 r4 r5 r6 r7.1 r8.1 r8.2))
  else
    some (.inr (v2, st)))
set_option maxRecDepth 100000 in
set_option maxHeartbeats 4000000 in
theorem w_L_law_b27 {κ : zK} {a : Nat → Nat} {b n9 : Nat} {f : Int → Int} {v2 v3 : Int} {st : z_St} {o : (Int × Int × z_St) ⊕ (Int × z_St)} (hc : z_C κ RL cL_law 10 30 7255 (6 * 7255)) (hap : z_AP κ a z_N) (hX : z_SX κ b n9 f) (k1 : ∀ s9 : (Int × Int × z_St), o = .inl s9 → z_V κ z_T z_N a (5032 + 117 * (s9.2.1 : Int).toNat) (6 * (5032 + 117 * (s9.2.1 : Int).toNat)) 27 [(0, .ref b), (1, .ref (a 0)), (2, .int (zI s9.1)), (3, .int (zI s9.2.1))] [] s9.2.2) (k2 : ∀ x9 : (Int × z_St), o = .inr x9 → z_V κ z_T z_N a 7255 (6 * 7255) 366 [(2, .int (zI x9.1))] [] x9.2) (h : J_L_law_b27 f (n9 : Int) v2 v3 st = some o) : z_V κ z_T z_N a (5032 + 117 * (v3 : Int).toNat) (6 * (5032 + 117 * (v3 : Int).toNat)) 27 [(0, .ref b), (1, .ref (a 0)), (2, .int (zI v2)), (3, .int (zI v3))] [] st := by
  unfold J_L_law_b27 at h
  obtain ⟨hv9, h⟩ := z_g_some h
  refine z_iload_n (i := 3) 3 hc dL_law_27 rfl rfl ?_
  refine z_bipush hc dL_law_28 rfl ?_
  refine z_icmp_ge (tgt := 366) hc dL_law_30 (by decide) h (fun c30 h => ?_) (fun c30 h => ?_)
  · refine z_iload_n (i := 2) 2 hc dL_law_33 rfl rfl ?_
    refine z_if_eq (tgt := 366) hc dL_law_34 (by decide) h (fun c34 h => ?_) (fun c34 h => ?_)
    · refine z_sub [(2, .int (zI v2))] [2] rfl ?_
      refine z_wide (cells' := 7255) (slots' := 6 * 7255) (by omega) (by omega) ?_
      exact k2 (v2, st) (Option.some.inj h).symm
    · refine z_aload_n (i := 0) 0 hc dL_law_37 rfl rfl ?_
      refine z_iconst hc dL_law_38 ?_
      refine z_iload_n (i := 3) 3 hc dL_law_39 rfl rfl ?_
      refine z_imul hc dL_law_40 ?_
      refine z_bipush hc dL_law_41 rfl ?_
      refine z_iadd hc dL_law_43 ?_
      obtain ⟨r4, hr4, h⟩ := z_b_some h
      refine z_callSS (5032 + 117 * (v3 : Int).toNat) (6 * (5032 + 117 * (v3 : Int).toNat)) (mu := 0) [.ref b, .int (zI ((2 * v3) + 10))] hX hc hap o_L_cell ml_RL_148 (fun l hl => c_L_cell hl hr4) (by decide) rfl rfl (Nat.le_of_ble_eq_true rfl) (by omega) (by omega) (by omega) (by omega) dL_law_44 ?_
      refine z_istore [(4, .int (zI r4)), (0, .ref b), (1, .ref (a 0)), (2, .int (zI v2)), (3, .int (zI v3))] hc dL_law_47 (by decide) rfl ?_
      refine z_aload_n (i := 0) 1 hc dL_law_49 rfl rfl ?_
      refine z_iconst hc dL_law_50 ?_
      refine z_iload_n (i := 3) 4 hc dL_law_51 rfl rfl ?_
      refine z_imul hc dL_law_52 ?_
      refine z_bipush hc dL_law_53 rfl ?_
      refine z_iadd hc dL_law_55 ?_
      obtain ⟨r5, hr5, h⟩ := z_b_some h
      refine z_callSS (5032 + 117 * (v3 : Int).toNat) (6 * (5032 + 117 * (v3 : Int).toNat)) (mu := 0) [.ref b, .int (zI ((2 * v3) + 11))] hX hc hap o_L_cell ml_RL_148 (fun l hl => c_L_cell hl hr5) (by decide) rfl rfl (Nat.le_of_ble_eq_true rfl) (by omega) (by omega) (by omega) (by omega) dL_law_56 ?_
      refine z_istore [(5, .int (zI r5)), (4, .int (zI r4)), (0, .ref b), (1, .ref (a 0)), (2, .int (zI v2)), (3, .int (zI v3))] hc dL_law_59 (by decide) rfl ?_
      refine z_iload 1 hc dL_law_61 rfl ?_
      refine z_iconst hc dL_law_63 ?_
      refine z_ishr_r hc dL_law_64 ?_
      refine z_bipush hc dL_law_65 rfl ?_
      obtain ⟨r6, hr6, h⟩ := z_b_some h
      refine z_callSI [.int (zI (z_ishr r4 4)), .int (zI 17)] hc hap o_L_low ml_RL_129 (fun l hl => c_L_low hl hr6) (by decide) rfl rfl (Nat.le_of_ble_eq_true rfl) (by omega) (by omega) dL_law_67 ?_
      refine z_istore [(6, .int (zI r6)), (5, .int (zI r5)), (4, .int (zI r4)), (0, .ref b), (1, .ref (a 0)), (2, .int (zI v2)), (3, .int (zI v3))] hc dL_law_70 (by decide) rfl ?_
      refine z_aload_n (i := 1) 4 hc dL_law_72 rfl rfl ?_
      refine z_bipush hc dL_law_73 rfl ?_
      refine z_lconst 0 hc dL_law_75 rfl ?_
      refine z_iconst hc dL_law_76 ?_
      obtain ⟨r7, hr7, h⟩ := z_b_some h
      refine z_callUJ ((5032 + 117 * (v3 : Int).toNat) + 1) (6 * ((5032 + 117 * (v3 : Int).toNat) + 1)) (mu := 1) [.ref (a 0), .int (zI 27), .long (zJ 0), .int (zI 0)] hc hap o_L_ask ml_RL_125 (fun l hl => c_L_ask hl hr7) (by decide) rfl rfl (Nat.le_of_ble_eq_true rfl) (by omega) (by omega) (by omega) (by omega) dL_law_77 ?_
      refine z_l2i hc dL_law_80 ?_
      refine z_istore [(7, .int (zI r7.1)), (6, .int (zI r6)), (5, .int (zI r5)), (4, .int (zI r4)), (0, .ref b), (1, .ref (a 0)), (2, .int (zI v2)), (3, .int (zI v3))] hc dL_law_81 (by decide) rfl ?_
      refine z_aload_n (i := 1) 5 hc dL_law_83 rfl rfl ?_
      refine z_bipush hc dL_law_84 rfl ?_
      refine z_ldc2 2 hc kc_RL_161 dL_law_86 rfl ?_
      refine z_iconst hc dL_law_89 ?_
      obtain ⟨r8, hr8, h⟩ := z_b_some h
      refine z_callUJ ((5032 + 117 * (v3 : Int).toNat) + 2) (6 * ((5032 + 117 * (v3 : Int).toNat) + 2)) (mu := 1) [.ref (a 0), .int (zI 27), .long (zJ 2), .int (zI 0)] hc hap o_L_ask ml_RL_125 (fun l hl => c_L_ask hl hr8) (by decide) rfl rfl (Nat.le_of_ble_eq_true rfl) (by omega) (by omega) (by omega) (by omega) dL_law_90 ?_
      refine z_l2i hc dL_law_93 ?_
      refine z_istore [(8, .int (zI r8.1)), (7, .int (zI r7.1)), (6, .int (zI r6)), (5, .int (zI r5)), (4, .int (zI r4)), (0, .ref b), (1, .ref (a 0)), (2, .int (zI v2)), (3, .int (zI v3))] hc dL_law_94 (by decide) rfl ?_
      refine z_iload 2 hc dL_law_96 rfl ?_
      refine z_if_ne (tgt := 138) hc dL_law_98 (by decide) h (fun c98 h => ?_) (fun c98 h => ?_)
      · refine z_iload 1 hc dL_law_101 rfl ?_
        refine z_iconst hc dL_law_103 ?_
        refine z_icmp_le (tgt := 138) hc dL_law_104 (by decide) h (fun c104 h => ?_) (fun c104 h => ?_)
        · refine z_aload_n (i := 1) 6 hc dL_law_107 rfl rfl ?_
          obtain ⟨r9, hr9, h⟩ := z_b_some h
          refine z_callVI [] hc hap o_X11_silence ml_RL_163 (fun l hl => c_X11_silence hl hr9) (by decide) tT_0 (by decide) ⟨_, rfl, rfl⟩ rfl rfl (Nat.le_of_ble_eq_true rfl) (by omega) (by omega) dL_law_108 ?_
          refine z_V_gh h (fun st10 h => ?_)
          refine z_iload 1 hc dL_law_111 rfl ?_
          refine z_icmp_ne (tgt := 133) hc dL_law_113 (by decide) h (fun c113 h => ?_) (fun c113 h => ?_)
          · refine z_aload_n (i := 1) 6 hc dL_law_116 rfl rfl ?_
            refine z_bipush hc dL_law_117 rfl ?_
            refine z_lconst 0 hc dL_law_119 rfl ?_
            refine z_iconst hc dL_law_120 ?_
            obtain ⟨r11, hr11, h⟩ := z_b_some h
            refine z_callUJ ((5032 + 117 * (v3 : Int).toNat) + 3) (6 * ((5032 + 117 * (v3 : Int).toNat) + 3)) (mu := 1) [.ref (a 0), .int (zI 27), .long (zJ 0), .int (zI 0)] hc hap o_L_ask ml_RL_125 (fun l hl => c_L_ask hl hr11) (by decide) rfl rfl (Nat.le_of_ble_eq_true rfl) (by omega) (by omega) (by omega) (by omega) dL_law_121 ?_
            refine z_lconst 0 hc dL_law_124 rfl ?_
            refine z_lcmp_ne (tgt := 133) hc dL_law_125 dL_law_126 (by decide) h (fun c125 h => ?_) (fun c125 h => ?_)
            · refine z_iconst hc dL_law_129 ?_
              refine z_goto (tgt := 134) hc dL_law_130 (by decide) ?_
              refine z_sub [(0, .ref b), (1, .ref (a 0)), (3, .int (zI v3))] [5, 6, 8] rfl ?_
              exact w_L_law_134 hc hap hX k1 k2 hv9 h
            · refine z_sub [(0, .ref b), (1, .ref (a 0)), (3, .int (zI v3))] [5, 6, 8] rfl ?_
              exact w_L_law_133 hc hap hX k1 k2 hv9 h
          · refine z_sub [(0, .ref b), (1, .ref (a 0)), (3, .int (zI v3))] [5, 6, 8] rfl ?_
            refine z_wide (cells' := ((5032 + 117 * (v3 : Int).toNat) + 3)) (slots' := 6 * ((5032 + 117 * (v3 : Int).toNat) + 3)) (by omega) (by omega) ?_
            exact w_L_law_133 hc hap hX k1 k2 hv9 h
        · refine z_sub [(0, .ref b), (1, .ref (a 0)), (3, .int (zI v3)), (4, .int (zI r4)), (5, .int (zI r5)), (6, .int (zI r6)), (7, .int (zI r7.1)), (8, .int (zI r8.1))] [5, 6, 8, 4, 3, 2, 1, 0] rfl ?_
          exact w_L_law_138 hc hap hX k1 k2 hv9 h
      · refine z_sub [(0, .ref b), (1, .ref (a 0)), (3, .int (zI v3)), (4, .int (zI r4)), (5, .int (zI r5)), (6, .int (zI r6)), (7, .int (zI r7.1)), (8, .int (zI r8.1))] [5, 6, 8, 4, 3, 2, 1, 0] rfl ?_
        exact w_L_law_138 hc hap hX k1 k2 hv9 h
  · refine z_sub [(2, .int (zI v2))] [2] rfl ?_
    refine z_wide (cells' := 7255) (slots' := 6 * 7255) (by omega) (by omega) ?_
    exact k2 (v2, st) (Option.some.inj h).symm
noncomputable def J_L_law_8 (f : Int → Int) (n9 : Int) (st : z_St) : Option (Int × z_St) :=
  z_b (J_L_cell f n9 0 st) fun r1 =>
  z_b (J_L_low r1 4 st) fun r2 =>
  z_b (J_L_builds f n9 (2 + r2) st) fun r3 =>
  z_b (z_iter z_F (fun q9 : (Int × Int × z_St) => J_L_law_b27 f n9 q9.1 q9.2.1 q9.2.2) (r3.1, 0, r3.2)) fun lx26 =>
    some (lx26.1, lx26.2)
set_option maxRecDepth 100000 in
set_option maxHeartbeats 4000000 in
theorem w_L_law_8 {κ : zK} {a : Nat → Nat} {b n9 : Nat} {f : Int → Int} {st : z_St} {o : Int × z_St} (hc : z_C κ RL cL_law 10 30 7255 (6 * 7255)) (hap : z_AP κ a z_N) (hX : z_SX κ b n9 f) (he : ∀ L9 : List (Nat × Value), z_V κ z_T z_N a 7255 (6 * 7255) 367 L9 [.int (zI o.1)] o.2) (h : J_L_law_8 f (n9 : Int) st = some o) : z_V κ z_T z_N a 5000 (6 * 5000) 8 [(1, .ref (a 0)), (0, .ref b)] [] st := by
  unfold J_L_law_8 at h
  refine z_aload_n (i := 1) 0 hc dL_law_8 rfl rfl ?_
  refine z_aload_n (i := 0) 1 hc dL_law_9 rfl rfl ?_
  refine z_iconst hc dL_law_10 ?_
  refine z_aload_n (i := 0) 1 hc dL_law_11 rfl rfl ?_
  refine z_iconst hc dL_law_12 ?_
  obtain ⟨r1, hr1, h⟩ := z_b_some h
  refine z_callSS 5000 (6 * 5000) (mu := 0) [.ref b, .int (zI 0)] hX hc hap o_L_cell ml_RL_148 (fun l hl => c_L_cell hl hr1) (by decide) rfl rfl (Nat.le_of_ble_eq_true rfl) (by omega) (by omega) (by omega) (by omega) dL_law_13 ?_
  refine z_iconst hc dL_law_16 ?_
  obtain ⟨r2, hr2, h⟩ := z_b_some h
  refine z_callSI [.int (zI r1), .int (zI 4)] hc hap o_L_low ml_RL_129 (fun l hl => c_L_low hl hr2) (by decide) rfl rfl (Nat.le_of_ble_eq_true rfl) (by omega) (by omega) dL_law_17 ?_
  refine z_iadd hc dL_law_20 ?_
  obtain ⟨r3, hr3, h⟩ := z_b_some h
  refine z_callSS 5032 (6 * 5032) (mu := 32) [.ref (a 0), .ref b, .int (zI (2 + r2))] hX hc hap o_L_builds ml_RL_157 (fun l hl => c_L_builds hl hr3) (by decide) rfl rfl (Nat.le_of_ble_eq_true rfl) (by omega) (by omega) (by omega) (by omega) dL_law_21 ?_
  refine z_istore_n (i := 2) [(2, .int (zI r3.1)), (1, .ref (a 0)), (0, .ref b)] hc dL_law_24 rfl (by decide) rfl ?_
  refine z_iconst hc dL_law_25 ?_
  refine z_istore_n (i := 3) [(3, .int (zI 0)), (2, .int (zI r3.1)), (1, .ref (a 0)), (0, .ref b)] hc dL_law_26 rfl (by decide) rfl ?_
  obtain ⟨lx26, hlx26, h⟩ := z_b_some h
  refine z_sub [(0, .ref b), (1, .ref (a 0)), (2, .int (zI r3.1)), (3, .int (zI 0))] [3, 2, 1, 0] rfl ?_
  refine z_wide (cells' := (5032 + 117 * (0 : Int).toNat)) (slots' := 6 * (5032 + 117 * (0 : Int).toNat)) (by omega) (by omega) ?_
  refine z_loop (fun q9 : (Int × Int × z_St) => J_L_law_b27 f n9 q9.1 q9.2.1 q9.2.2) (fun q9 : (Int × Int × z_St) => z_V κ z_T z_N a (5032 + 117 * (q9.2.1 : Int).toNat) (6 * (5032 + 117 * (q9.2.1 : Int).toNat)) 27 [(0, .ref b), (1, .ref (a 0)), (2, .int (zI q9.1)), (3, .int (zI q9.2.1))] [] q9.2.2) (fun x9 : (Int × z_St) => z_V κ z_T z_N a 7255 (6 * 7255) 366 [(2, .int (zI x9.1))] [] x9.2) (fun q9 o9 hb k1 k2 => ?_) _ _ _ hlx26 ?_
  · exact w_L_law_b27 hc hap hX k1 k2 hb
  · show z_V κ z_T z_N a 7255 (6 * 7255) 366 [(2, .int (zI lx26.1))] [] lx26.2
    refine z_iload_n (i := 2) 0 hc dL_law_366 rfl rfl ?_
    have h := Option.some.inj h
    subst h
    exact he _
