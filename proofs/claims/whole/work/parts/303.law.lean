def JL_0 (f : Int → Int) (i : Int) (st : z_St) : Option z_St :=
  z_b (J_L_frame (f (i + 1)) (f (i + 2)) (f (i + 3)) st) fun r =>
  z_b (J_X12_frame (f (i + 1)) (f (i + 2)) (f (i + 3)) r.2) fun q =>
  z_b (J_X12_thrown q.2) fun t =>
  z_g ((z32 t ∧ z32 r.1) ∧ t = r.1) <|
  z_g (r.1 = 0 → z32 q.1 ∧ z64 (q.2 199 0) ∧ z64 q.1 ∧ q.2 199 0 = q.1) <|
  some q.2
set_option maxRecDepth 100000 in
set_option maxHeartbeats 4000000 in
theorem wl_0 {κ : zK} {a : Nat → Nat} {f : Int → Int} {i : Int} {n b cells slots lam mc ms : Nat} {st o : z_St} (hc : z_C κ RL cL_law 8 lam mc ms) (hl9 : 30 ≤ lam) (hap : z_AP κ a z_N) (hX : z_SX κ b n f) (hi : 0 ≤ i ∧ i + 5 ≤ n) (h1 : cells + 1 ≤ mc) (h2 : slots + 6 ≤ ms) (h : JL_0 f i st = some o) (kk : z_V κ z_T z_N a (cells + 1) (slots + 6) 2158 [(0, .ref b), (1, .ref (a 0)), (2, .ref (a 168)), (3, .ref (a 199)), (4, .int (zI i))] [] o) : z_V κ z_T z_N a cells slots 168 [(0, .ref b), (1, .ref (a 0)), (2, .ref (a 168)), (3, .ref (a 199)), (4, .int (zI i))] [] st := by
  have hn9 := z_SXn hX
  refine z_aload_n (i := 1) 1 hc dL_law_168 rfl rfl ?_
  refine z_aload_n (i := 0) 0 hc dL_law_169 rfl rfl ?_
  refine z_iload 4 hc dL_law_170 rfl ?_
  refine z_iconst hc dL_law_172 ?_
  refine z_iadd hc dL_law_173 ?_
  refine z_sld hX hc dL_law_174 (by omega) ?_
  refine z_aload_n (i := 0) 0 hc dL_law_175 rfl rfl ?_
  refine z_iload 4 hc dL_law_176 rfl ?_
  refine z_iconst hc dL_law_178 ?_
  refine z_iadd hc dL_law_179 ?_
  refine z_sld hX hc dL_law_180 (by omega) ?_
  refine z_aload_n (i := 0) 0 hc dL_law_181 rfl rfl ?_
  refine z_iload 4 hc dL_law_182 rfl ?_
  refine z_iconst hc dL_law_184 ?_
  refine z_iadd hc dL_law_185 ?_
  refine z_sld hX hc dL_law_186 (by omega) ?_
  refine z_aload_n (i := 3) 3 hc dL_law_187 rfl rfl ?_
  unfold JL_0 at h
  obtain ⟨r, hr, h⟩ := z_b_some h
  refine z_callW (np := 5) [.ref (a 0), .int (zI (f (i + 1))), .int (zI (f (i + 2))), .int (zI (f (i + 3))), .ref (a 199)] hc hap kL_frame ml_RL_115 (z_t2 158 rfl rfl) (z_t1 0 rfl rfl) (by decide +kernel) (by decide) (fun l hl => c_L_frame hl hr) (by omega) rfl rfl (Nat.le_of_ble_eq_true rfl) h1 h2 dL_law_188 ?_
  refine z_istore [(5, .int (zI r.1)), (0, .ref b), (1, .ref (a 0)), (2, .ref (a 168)), (3, .ref (a 199)), (4, .int (zI i))] hc dL_law_191 (by decide) rfl ?_
  refine z_aload_n (i := 2) 3 hc dL_law_193 rfl rfl ?_
  refine z_aload_n (i := 0) 1 hc dL_law_194 rfl rfl ?_
  refine z_iload 5 hc dL_law_195 rfl ?_
  refine z_iconst hc dL_law_197 ?_
  refine z_iadd hc dL_law_198 ?_
  refine z_sld hX hc dL_law_199 (by omega) ?_
  refine z_aload_n (i := 0) 1 hc dL_law_200 rfl rfl ?_
  refine z_iload 5 hc dL_law_201 rfl ?_
  refine z_iconst hc dL_law_203 ?_
  refine z_iadd hc dL_law_204 ?_
  refine z_sld hX hc dL_law_205 (by omega) ?_
  refine z_aload_n (i := 0) 1 hc dL_law_206 rfl rfl ?_
  refine z_iload 5 hc dL_law_207 rfl ?_
  refine z_iconst hc dL_law_209 ?_
  refine z_iadd hc dL_law_210 ?_
  refine z_sld hX hc dL_law_211 (by omega) ?_
  obtain ⟨q, hq, h⟩ := z_b_some h
  refine z_callVI [.int (zI (f (i + 1))), .int (zI (f (i + 2))), .int (zI (f (i + 3)))] hc hap o_X12_frame ml_RL_120 (fun l hl => c_X12_frame hl hq) (by omega) tT_168 (by decide) ⟨_, rfl, rfl⟩ rfl rfl (Nat.le_of_ble_eq_true rfl) (by omega) (by omega) dL_law_212 ?_
  refine z_istore [(6, .int (zI q.1)), (5, .int (zI r.1)), (0, .ref b), (1, .ref (a 0)), (2, .ref (a 168)), (3, .ref (a 199)), (4, .int (zI i))] hc dL_law_215 (by decide) rfl ?_
  refine z_aload_n (i := 2) 4 hc dL_law_217 rfl rfl ?_
  obtain ⟨t, ht, h⟩ := z_b_some h
  refine z_callVI [] hc hap o_X12_thrown ml_RL_121 (fun l hl => c_X12_thrown hl ht) (by omega) tT_168 (by decide) ⟨_, rfl, rfl⟩ rfl rfl (Nat.le_of_ble_eq_true rfl) (by omega) (by omega) dL_law_218 ?_
  refine z_iload 1 hc dL_law_221 rfl ?_
  obtain ⟨⟨hz9, he9⟩, h⟩ := z_g_some h
  refine z_icmp_eq (X := some ()) (Y := none) (o := ()) (tgt := 228) hc dL_law_223 (by decide) (by rw [z_g_pos hz9, if_pos he9]) (fun _ _ => ?_) (fun _ h9 => nomatch h9)
  refine z_iload 1 hc dL_law_228 rfl ?_
  obtain ⟨hv9, h⟩ := z_g_some h
  have h := Option.some.inj h
  subst h
  refine z_if_ne (X := some ()) (Y := some ()) (o := ()) (tgt := 245) hc dL_law_230 (by decide) (by rw [z_g_pos hz9.2]; split <;> rfl) (fun e9 _ => ?_) (fun _ _ => ?_)
  · refine z_aload_n (i := 3) 5 hc dL_law_233 rfl rfl ?_
    refine z_iconst hc dL_law_234 ?_
    refine z_lald (kI := 199) (nI9 := 1) (X := some ()) (o := ()) hc tT_199 (by decide) rfl rfl (by decide) dL_law_235 (z_g_pos (by decide)) (fun _ _ => ?_)
    refine z_iload 0 hc dL_law_236 rfl ?_
    refine z_i2lc hc dL_law_238 (hv9 e9).1 ?_
    refine z_lcmp_eq (X := some ()) (Y := none) (o := ()) (tgt := 245) hc dL_law_239 dL_law_240 (by decide) (by rw [z_g_pos ⟨(hv9 e9).2.1, (hv9 e9).2.2.1⟩, if_pos (hv9 e9).2.2.2]) (fun _ _ => ?_) (fun _ h9 => nomatch h9)
    refine z_goto (tgt := 2158) hc dL_law_245 (by decide) ?_
    refine z_sub [(0, .ref b), (1, .ref (a 0)), (2, .ref (a 168)), (3, .ref (a 199)), (4, .int (zI i))] [2, 3, 4, 5, 6] rfl ?_
    exact kk
  · refine z_goto (tgt := 2158) hc dL_law_245 (by decide) ?_
    refine z_sub [(0, .ref b), (1, .ref (a 0)), (2, .ref (a 168)), (3, .ref (a 199)), (4, .int (zI i))] [2, 3, 4, 5, 6] rfl ?_
    exact kk
def JL_1 (_f : Int → Int) (_i : Int) (st : z_St) : Option z_St :=
  z_b (J_X11_silence st) fun r =>
  z_b (J_X12_silence r.2) fun q =>
  z_g ((z32 r.1 ∧ z32 q.1) ∧ r.1 = q.1) <|
  some q.2
set_option maxRecDepth 100000 in
set_option maxHeartbeats 4000000 in
theorem wl_1 {κ : zK} {a : Nat → Nat} {f : Int → Int} {i : Int} {n b cells slots lam mc ms : Nat} {st o : z_St} (hc : z_C κ RL cL_law 8 lam mc ms) (hl9 : 30 ≤ lam) (hap : z_AP κ a z_N) (hX : z_SX κ b n f) (hi : 0 ≤ i ∧ i + 5 ≤ n) (h1 : cells + 1 ≤ mc) (h2 : slots + 6 ≤ ms) (h : JL_1 f i st = some o) (kk : z_V κ z_T z_N a (cells + 1) (slots + 6) 2158 [(0, .ref b), (1, .ref (a 0)), (2, .ref (a 168)), (3, .ref (a 199)), (4, .int (zI i))] [] o) : z_V κ z_T z_N a cells slots 248 [(0, .ref b), (1, .ref (a 0)), (2, .ref (a 168)), (3, .ref (a 199)), (4, .int (zI i))] [] st := by
  have hn9 := z_SXn hX
  refine z_aload_n (i := 1) 1 hc dL_law_248 rfl rfl ?_
  unfold JL_1 at h
  obtain ⟨r, hr, h⟩ := z_b_some h
  refine z_callVI [] hc hap o_X11_silence ml_RL_125 (fun l hl => c_X11_silence hl hr) (by omega) tT_0 (by decide) ⟨_, rfl, rfl⟩ rfl rfl (Nat.le_of_ble_eq_true rfl) (by omega) (by omega) dL_law_249 ?_
  refine z_aload_n (i := 2) 2 hc dL_law_252 rfl rfl ?_
  obtain ⟨q, hq, h⟩ := z_b_some h
  refine z_callVI [] hc hap o_X12_silence ml_RL_128 (fun l hl => c_X12_silence hl hq) (by omega) tT_168 (by decide) ⟨_, rfl, rfl⟩ rfl rfl (Nat.le_of_ble_eq_true rfl) (by omega) (by omega) dL_law_253 ?_
  obtain ⟨⟨hz9, he9⟩, h⟩ := z_g_some h
  refine z_icmp_eq (X := some ()) (Y := none) (o := ()) (tgt := 2158) hc dL_law_256 (by decide) (by rw [z_g_pos hz9, if_pos he9]) (fun _ _ => ?_) (fun _ h9 => nomatch h9)
  have h := Option.some.inj h
  subst h
  exact z_wide (by omega) (by omega) kk
def JL_2 (f : Int → Int) (i : Int) (st : z_St) : Option z_St :=
  z_b (J_L_speak (f (i + 1)) st) fun r =>
  z_b (J_X12_speak (f (i + 1)) r.2) fun q =>
  z_b (J_X12_thrown q.2) fun t =>
  z_g ((z32 t ∧ z32 r.1) ∧ t = r.1) <|
  z_g (r.1 = 0 → z32 q.1 ∧ z64 (q.2 199 0) ∧ z64 q.1 ∧ q.2 199 0 = q.1) <|
  some q.2
set_option maxRecDepth 100000 in
set_option maxHeartbeats 4000000 in
theorem wl_2 {κ : zK} {a : Nat → Nat} {f : Int → Int} {i : Int} {n b cells slots lam mc ms : Nat} {st o : z_St} (hc : z_C κ RL cL_law 8 lam mc ms) (hl9 : 30 ≤ lam) (hap : z_AP κ a z_N) (hX : z_SX κ b n f) (hi : 0 ≤ i ∧ i + 5 ≤ n) (h1 : cells + 1 ≤ mc) (h2 : slots + 6 ≤ ms) (h : JL_2 f i st = some o) (kk : z_V κ z_T z_N a (cells + 1) (slots + 6) 2158 [(0, .ref b), (1, .ref (a 0)), (2, .ref (a 168)), (3, .ref (a 199)), (4, .int (zI i))] [] o) : z_V κ z_T z_N a cells slots 261 [(0, .ref b), (1, .ref (a 0)), (2, .ref (a 168)), (3, .ref (a 199)), (4, .int (zI i))] [] st := by
  have hn9 := z_SXn hX
  refine z_aload_n (i := 1) 1 hc dL_law_261 rfl rfl ?_
  refine z_aload_n (i := 0) 0 hc dL_law_262 rfl rfl ?_
  refine z_iload 4 hc dL_law_263 rfl ?_
  refine z_iconst hc dL_law_265 ?_
  refine z_iadd hc dL_law_266 ?_
  refine z_sld hX hc dL_law_267 (by omega) ?_
  refine z_aload_n (i := 3) 3 hc dL_law_268 rfl rfl ?_
  unfold JL_2 at h
  obtain ⟨r, hr, h⟩ := z_b_some h
  refine z_callW (np := 3) [.ref (a 0), .int (zI (f (i + 1))), .ref (a 199)] hc hap kL_speak ml_RL_129 (z_t3 20 rfl rfl) (z_t1 0 rfl rfl) (by decide +kernel) (by decide) (fun l hl => c_L_speak hl hr) (by omega) rfl rfl (Nat.le_of_ble_eq_true rfl) h1 h2 dL_law_269 ?_
  refine z_istore [(5, .int (zI r.1)), (0, .ref b), (1, .ref (a 0)), (2, .ref (a 168)), (3, .ref (a 199)), (4, .int (zI i))] hc dL_law_272 (by decide) rfl ?_
  refine z_aload_n (i := 2) 3 hc dL_law_274 rfl rfl ?_
  refine z_aload_n (i := 0) 1 hc dL_law_275 rfl rfl ?_
  refine z_iload 5 hc dL_law_276 rfl ?_
  refine z_iconst hc dL_law_278 ?_
  refine z_iadd hc dL_law_279 ?_
  refine z_sld hX hc dL_law_280 (by omega) ?_
  obtain ⟨q, hq, h⟩ := z_b_some h
  refine z_callVI [.int (zI (f (i + 1)))] hc hap o_X12_speak ml_RL_132 (fun l hl => c_X12_speak hl hq) (by omega) tT_168 (by decide) ⟨_, rfl, rfl⟩ rfl rfl (Nat.le_of_ble_eq_true rfl) (by omega) (by omega) dL_law_281 ?_
  refine z_istore [(6, .int (zI q.1)), (5, .int (zI r.1)), (0, .ref b), (1, .ref (a 0)), (2, .ref (a 168)), (3, .ref (a 199)), (4, .int (zI i))] hc dL_law_284 (by decide) rfl ?_
  refine z_aload_n (i := 2) 4 hc dL_law_286 rfl rfl ?_
  obtain ⟨t, ht, h⟩ := z_b_some h
  refine z_callVI [] hc hap o_X12_thrown ml_RL_121 (fun l hl => c_X12_thrown hl ht) (by omega) tT_168 (by decide) ⟨_, rfl, rfl⟩ rfl rfl (Nat.le_of_ble_eq_true rfl) (by omega) (by omega) dL_law_287 ?_
  refine z_iload 1 hc dL_law_290 rfl ?_
  obtain ⟨⟨hz9, he9⟩, h⟩ := z_g_some h
  refine z_icmp_eq (X := some ()) (Y := none) (o := ()) (tgt := 297) hc dL_law_292 (by decide) (by rw [z_g_pos hz9, if_pos he9]) (fun _ _ => ?_) (fun _ h9 => nomatch h9)
  refine z_iload 1 hc dL_law_297 rfl ?_
  obtain ⟨hv9, h⟩ := z_g_some h
  have h := Option.some.inj h
  subst h
  refine z_if_ne (X := some ()) (Y := some ()) (o := ()) (tgt := 314) hc dL_law_299 (by decide) (by rw [z_g_pos hz9.2]; split <;> rfl) (fun e9 _ => ?_) (fun _ _ => ?_)
  · refine z_aload_n (i := 3) 5 hc dL_law_302 rfl rfl ?_
    refine z_iconst hc dL_law_303 ?_
    refine z_lald (kI := 199) (nI9 := 1) (X := some ()) (o := ()) hc tT_199 (by decide) rfl rfl (by decide) dL_law_304 (z_g_pos (by decide)) (fun _ _ => ?_)
    refine z_iload 0 hc dL_law_305 rfl ?_
    refine z_i2lc hc dL_law_307 (hv9 e9).1 ?_
    refine z_lcmp_eq (X := some ()) (Y := none) (o := ()) (tgt := 314) hc dL_law_308 dL_law_309 (by decide) (by rw [z_g_pos ⟨(hv9 e9).2.1, (hv9 e9).2.2.1⟩, if_pos (hv9 e9).2.2.2]) (fun _ _ => ?_) (fun _ h9 => nomatch h9)
    refine z_goto (tgt := 2158) hc dL_law_314 (by decide) ?_
    refine z_sub [(0, .ref b), (1, .ref (a 0)), (2, .ref (a 168)), (3, .ref (a 199)), (4, .int (zI i))] [2, 3, 4, 5, 6] rfl ?_
    exact kk
  · refine z_goto (tgt := 2158) hc dL_law_314 (by decide) ?_
    refine z_sub [(0, .ref b), (1, .ref (a 0)), (2, .ref (a 168)), (3, .ref (a 199)), (4, .int (zI i))] [2, 3, 4, 5, 6] rfl ?_
    exact kk
def JL_3 (f : Int → Int) (i : Int) (st : z_St) : Option z_St :=
  z_b (J_L_shift (f (i + 1)) (f (i + 2)) (f (i + 3)) st) fun r =>
  z_b (J_X12_shift (f (i + 1)) (f (i + 2)) (f (i + 3)) r.2) fun q =>
  z_b (J_X12_thrown q.2) fun t =>
  z_g ((z32 t ∧ z32 r.1) ∧ t = r.1) <|
  z_g (r.1 = 0 → z32 q.1 ∧ z64 (q.2 199 0) ∧ z64 q.1 ∧ q.2 199 0 = q.1) <|
  some q.2
set_option maxRecDepth 100000 in
set_option maxHeartbeats 4000000 in
theorem wl_3 {κ : zK} {a : Nat → Nat} {f : Int → Int} {i : Int} {n b cells slots lam mc ms : Nat} {st o : z_St} (hc : z_C κ RL cL_law 8 lam mc ms) (hl9 : 30 ≤ lam) (hap : z_AP κ a z_N) (hX : z_SX κ b n f) (hi : 0 ≤ i ∧ i + 5 ≤ n) (h1 : cells + 1 ≤ mc) (h2 : slots + 6 ≤ ms) (h : JL_3 f i st = some o) (kk : z_V κ z_T z_N a (cells + 1) (slots + 6) 2158 [(0, .ref b), (1, .ref (a 0)), (2, .ref (a 168)), (3, .ref (a 199)), (4, .int (zI i))] [] o) : z_V κ z_T z_N a cells slots 317 [(0, .ref b), (1, .ref (a 0)), (2, .ref (a 168)), (3, .ref (a 199)), (4, .int (zI i))] [] st := by
  have hn9 := z_SXn hX
  refine z_aload_n (i := 1) 1 hc dL_law_317 rfl rfl ?_
  refine z_aload_n (i := 0) 0 hc dL_law_318 rfl rfl ?_
  refine z_iload 4 hc dL_law_319 rfl ?_
  refine z_iconst hc dL_law_321 ?_
  refine z_iadd hc dL_law_322 ?_
  refine z_sld hX hc dL_law_323 (by omega) ?_
  refine z_aload_n (i := 0) 0 hc dL_law_324 rfl rfl ?_
  refine z_iload 4 hc dL_law_325 rfl ?_
  refine z_iconst hc dL_law_327 ?_
  refine z_iadd hc dL_law_328 ?_
  refine z_sld hX hc dL_law_329 (by omega) ?_
  refine z_aload_n (i := 0) 0 hc dL_law_330 rfl rfl ?_
  refine z_iload 4 hc dL_law_331 rfl ?_
  refine z_iconst hc dL_law_333 ?_
  refine z_iadd hc dL_law_334 ?_
  refine z_sld hX hc dL_law_335 (by omega) ?_
  refine z_aload_n (i := 3) 3 hc dL_law_336 rfl rfl ?_
  unfold JL_3 at h
  obtain ⟨r, hr, h⟩ := z_b_some h
  refine z_callW (np := 5) [.ref (a 0), .int (zI (f (i + 1))), .int (zI (f (i + 2))), .int (zI (f (i + 3))), .ref (a 199)] hc hap kL_shift ml_RL_133 (z_t3 47 rfl rfl) (z_t1 0 rfl rfl) (by decide +kernel) (by decide) (fun l hl => c_L_shift hl hr) (by omega) rfl rfl (Nat.le_of_ble_eq_true rfl) h1 h2 dL_law_337 ?_
  refine z_istore [(5, .int (zI r.1)), (0, .ref b), (1, .ref (a 0)), (2, .ref (a 168)), (3, .ref (a 199)), (4, .int (zI i))] hc dL_law_340 (by decide) rfl ?_
  refine z_aload_n (i := 2) 3 hc dL_law_342 rfl rfl ?_
  refine z_aload_n (i := 0) 1 hc dL_law_343 rfl rfl ?_
  refine z_iload 5 hc dL_law_344 rfl ?_
  refine z_iconst hc dL_law_346 ?_
  refine z_iadd hc dL_law_347 ?_
  refine z_sld hX hc dL_law_348 (by omega) ?_
  refine z_aload_n (i := 0) 1 hc dL_law_349 rfl rfl ?_
  refine z_iload 5 hc dL_law_350 rfl ?_
  refine z_iconst hc dL_law_352 ?_
  refine z_iadd hc dL_law_353 ?_
  refine z_sld hX hc dL_law_354 (by omega) ?_
  refine z_aload_n (i := 0) 1 hc dL_law_355 rfl rfl ?_
  refine z_iload 5 hc dL_law_356 rfl ?_
  refine z_iconst hc dL_law_358 ?_
  refine z_iadd hc dL_law_359 ?_
  refine z_sld hX hc dL_law_360 (by omega) ?_
  obtain ⟨q, hq, h⟩ := z_b_some h
  refine z_callVI [.int (zI (f (i + 1))), .int (zI (f (i + 2))), .int (zI (f (i + 3)))] hc hap o_X12_shift ml_RL_135 (fun l hl => c_X12_shift hl hq) (by omega) tT_168 (by decide) ⟨_, rfl, rfl⟩ rfl rfl (Nat.le_of_ble_eq_true rfl) (by omega) (by omega) dL_law_361 ?_
  refine z_istore [(6, .int (zI q.1)), (5, .int (zI r.1)), (0, .ref b), (1, .ref (a 0)), (2, .ref (a 168)), (3, .ref (a 199)), (4, .int (zI i))] hc dL_law_364 (by decide) rfl ?_
  refine z_aload_n (i := 2) 4 hc dL_law_366 rfl rfl ?_
  obtain ⟨t, ht, h⟩ := z_b_some h
  refine z_callVI [] hc hap o_X12_thrown ml_RL_121 (fun l hl => c_X12_thrown hl ht) (by omega) tT_168 (by decide) ⟨_, rfl, rfl⟩ rfl rfl (Nat.le_of_ble_eq_true rfl) (by omega) (by omega) dL_law_367 ?_
  refine z_iload 1 hc dL_law_370 rfl ?_
  obtain ⟨⟨hz9, he9⟩, h⟩ := z_g_some h
  refine z_icmp_eq (X := some ()) (Y := none) (o := ()) (tgt := 377) hc dL_law_372 (by decide) (by rw [z_g_pos hz9, if_pos he9]) (fun _ _ => ?_) (fun _ h9 => nomatch h9)
  refine z_iload 1 hc dL_law_377 rfl ?_
  obtain ⟨hv9, h⟩ := z_g_some h
  have h := Option.some.inj h
  subst h
  refine z_if_ne (X := some ()) (Y := some ()) (o := ()) (tgt := 394) hc dL_law_379 (by decide) (by rw [z_g_pos hz9.2]; split <;> rfl) (fun e9 _ => ?_) (fun _ _ => ?_)
  · refine z_aload_n (i := 3) 5 hc dL_law_382 rfl rfl ?_
    refine z_iconst hc dL_law_383 ?_
    refine z_lald (kI := 199) (nI9 := 1) (X := some ()) (o := ()) hc tT_199 (by decide) rfl rfl (by decide) dL_law_384 (z_g_pos (by decide)) (fun _ _ => ?_)
    refine z_iload 0 hc dL_law_385 rfl ?_
    refine z_i2lc hc dL_law_387 (hv9 e9).1 ?_
    refine z_lcmp_eq (X := some ()) (Y := none) (o := ()) (tgt := 394) hc dL_law_388 dL_law_389 (by decide) (by rw [z_g_pos ⟨(hv9 e9).2.1, (hv9 e9).2.2.1⟩, if_pos (hv9 e9).2.2.2]) (fun _ _ => ?_) (fun _ h9 => nomatch h9)
    refine z_goto (tgt := 2158) hc dL_law_394 (by decide) ?_
    refine z_sub [(0, .ref b), (1, .ref (a 0)), (2, .ref (a 168)), (3, .ref (a 199)), (4, .int (zI i))] [2, 3, 4, 5, 6] rfl ?_
    exact kk
  · refine z_goto (tgt := 2158) hc dL_law_394 (by decide) ?_
    refine z_sub [(0, .ref b), (1, .ref (a 0)), (2, .ref (a 168)), (3, .ref (a 199)), (4, .int (zI i))] [2, 3, 4, 5, 6] rfl ?_
    exact kk
def JL_4 (f : Int → Int) (i : Int) (st : z_St) : Option z_St :=
  z_b (J_L_shiftOf (f (i + 1)) (f (i + 2)) st) fun r =>
  z_b (J_X12_shiftOf (f (i + 1)) (f (i + 2)) r.2) fun q =>
  z_b (J_X12_thrown q.2) fun t =>
  z_g ((z32 t ∧ z32 r.1) ∧ t = r.1) <|
  z_g (r.1 = 0 → z32 q.1 ∧ z64 (q.2 199 0) ∧ z64 q.1 ∧ q.2 199 0 = q.1) <|
  some q.2
set_option maxRecDepth 100000 in
set_option maxHeartbeats 4000000 in
theorem wl_4 {κ : zK} {a : Nat → Nat} {f : Int → Int} {i : Int} {n b cells slots lam mc ms : Nat} {st o : z_St} (hc : z_C κ RL cL_law 8 lam mc ms) (hl9 : 30 ≤ lam) (hap : z_AP κ a z_N) (hX : z_SX κ b n f) (hi : 0 ≤ i ∧ i + 5 ≤ n) (h1 : cells + 1 ≤ mc) (h2 : slots + 6 ≤ ms) (h : JL_4 f i st = some o) (kk : z_V κ z_T z_N a (cells + 1) (slots + 6) 2158 [(0, .ref b), (1, .ref (a 0)), (2, .ref (a 168)), (3, .ref (a 199)), (4, .int (zI i))] [] o) : z_V κ z_T z_N a cells slots 397 [(0, .ref b), (1, .ref (a 0)), (2, .ref (a 168)), (3, .ref (a 199)), (4, .int (zI i))] [] st := by
  have hn9 := z_SXn hX
  refine z_aload_n (i := 1) 1 hc dL_law_397 rfl rfl ?_
  refine z_aload_n (i := 0) 0 hc dL_law_398 rfl rfl ?_
  refine z_iload 4 hc dL_law_399 rfl ?_
  refine z_iconst hc dL_law_401 ?_
  refine z_iadd hc dL_law_402 ?_
  refine z_sld hX hc dL_law_403 (by omega) ?_
  refine z_aload_n (i := 0) 0 hc dL_law_404 rfl rfl ?_
  refine z_iload 4 hc dL_law_405 rfl ?_
  refine z_iconst hc dL_law_407 ?_
  refine z_iadd hc dL_law_408 ?_
  refine z_sld hX hc dL_law_409 (by omega) ?_
  refine z_aload_n (i := 3) 3 hc dL_law_410 rfl rfl ?_
  unfold JL_4 at h
  obtain ⟨r, hr, h⟩ := z_b_some h
  refine z_callW (np := 4) [.ref (a 0), .int (zI (f (i + 1))), .int (zI (f (i + 2))), .ref (a 199)] hc hap kL_shiftOf ml_RL_136 (z_t3 54 rfl rfl) (z_t1 0 rfl rfl) (by decide +kernel) (by decide) (fun l hl => c_L_shiftOf hl hr) (by omega) rfl rfl (Nat.le_of_ble_eq_true rfl) h1 h2 dL_law_411 ?_
  refine z_istore [(5, .int (zI r.1)), (0, .ref b), (1, .ref (a 0)), (2, .ref (a 168)), (3, .ref (a 199)), (4, .int (zI i))] hc dL_law_414 (by decide) rfl ?_
  refine z_aload_n (i := 2) 3 hc dL_law_416 rfl rfl ?_
  refine z_aload_n (i := 0) 1 hc dL_law_417 rfl rfl ?_
  refine z_iload 5 hc dL_law_418 rfl ?_
  refine z_iconst hc dL_law_420 ?_
  refine z_iadd hc dL_law_421 ?_
  refine z_sld hX hc dL_law_422 (by omega) ?_
  refine z_aload_n (i := 0) 1 hc dL_law_423 rfl rfl ?_
  refine z_iload 5 hc dL_law_424 rfl ?_
  refine z_iconst hc dL_law_426 ?_
  refine z_iadd hc dL_law_427 ?_
  refine z_sld hX hc dL_law_428 (by omega) ?_
  obtain ⟨q, hq, h⟩ := z_b_some h
  refine z_callVI [.int (zI (f (i + 1))), .int (zI (f (i + 2)))] hc hap o_X12_shiftOf ml_RL_139 (fun l hl => c_X12_shiftOf hl hq) (by omega) tT_168 (by decide) ⟨_, rfl, rfl⟩ rfl rfl (Nat.le_of_ble_eq_true rfl) (by omega) (by omega) dL_law_429 ?_
  refine z_istore [(6, .int (zI q.1)), (5, .int (zI r.1)), (0, .ref b), (1, .ref (a 0)), (2, .ref (a 168)), (3, .ref (a 199)), (4, .int (zI i))] hc dL_law_432 (by decide) rfl ?_
  refine z_aload_n (i := 2) 4 hc dL_law_434 rfl rfl ?_
  obtain ⟨t, ht, h⟩ := z_b_some h
  refine z_callVI [] hc hap o_X12_thrown ml_RL_121 (fun l hl => c_X12_thrown hl ht) (by omega) tT_168 (by decide) ⟨_, rfl, rfl⟩ rfl rfl (Nat.le_of_ble_eq_true rfl) (by omega) (by omega) dL_law_435 ?_
  refine z_iload 1 hc dL_law_438 rfl ?_
  obtain ⟨⟨hz9, he9⟩, h⟩ := z_g_some h
  refine z_icmp_eq (X := some ()) (Y := none) (o := ()) (tgt := 445) hc dL_law_440 (by decide) (by rw [z_g_pos hz9, if_pos he9]) (fun _ _ => ?_) (fun _ h9 => nomatch h9)
  refine z_iload 1 hc dL_law_445 rfl ?_
  obtain ⟨hv9, h⟩ := z_g_some h
  have h := Option.some.inj h
  subst h
  refine z_if_ne (X := some ()) (Y := some ()) (o := ()) (tgt := 462) hc dL_law_447 (by decide) (by rw [z_g_pos hz9.2]; split <;> rfl) (fun e9 _ => ?_) (fun _ _ => ?_)
  · refine z_aload_n (i := 3) 5 hc dL_law_450 rfl rfl ?_
    refine z_iconst hc dL_law_451 ?_
    refine z_lald (kI := 199) (nI9 := 1) (X := some ()) (o := ()) hc tT_199 (by decide) rfl rfl (by decide) dL_law_452 (z_g_pos (by decide)) (fun _ _ => ?_)
    refine z_iload 0 hc dL_law_453 rfl ?_
    refine z_i2lc hc dL_law_455 (hv9 e9).1 ?_
    refine z_lcmp_eq (X := some ()) (Y := none) (o := ()) (tgt := 462) hc dL_law_456 dL_law_457 (by decide) (by rw [z_g_pos ⟨(hv9 e9).2.1, (hv9 e9).2.2.1⟩, if_pos (hv9 e9).2.2.2]) (fun _ _ => ?_) (fun _ h9 => nomatch h9)
    refine z_goto (tgt := 2158) hc dL_law_462 (by decide) ?_
    refine z_sub [(0, .ref b), (1, .ref (a 0)), (2, .ref (a 168)), (3, .ref (a 199)), (4, .int (zI i))] [2, 3, 4, 5, 6] rfl ?_
    exact kk
  · refine z_goto (tgt := 2158) hc dL_law_462 (by decide) ?_
    refine z_sub [(0, .ref b), (1, .ref (a 0)), (2, .ref (a 168)), (3, .ref (a 199)), (4, .int (zI i))] [2, 3, 4, 5, 6] rfl ?_
    exact kk
def JL_5 (_f : Int → Int) (_i : Int) (st : z_St) : Option z_St :=
  z_b (J_L_fit st) fun r =>
  z_b (J_X12_fit r.2) fun q =>
  z_b (J_X12_thrown q.2) fun t =>
  z_g ((z32 t ∧ z32 r.1) ∧ t = r.1) <|
  z_g (r.1 = 0 → z64 q.1 ∧ z64 (q.2 199 0) ∧ z64 q.1 ∧ q.2 199 0 = q.1) <|
  some q.2
set_option maxRecDepth 100000 in
set_option maxHeartbeats 4000000 in
theorem wl_5 {κ : zK} {a : Nat → Nat} {f : Int → Int} {i : Int} {n b cells slots lam mc ms : Nat} {st o : z_St} (hc : z_C κ RL cL_law 8 lam mc ms) (hl9 : 30 ≤ lam) (hap : z_AP κ a z_N) (hX : z_SX κ b n f) (hi : 0 ≤ i ∧ i + 5 ≤ n) (h1 : cells + 1 ≤ mc) (h2 : slots + 6 ≤ ms) (h : JL_5 f i st = some o) (kk : z_V κ z_T z_N a (cells + 1) (slots + 6) 2158 [(0, .ref b), (1, .ref (a 0)), (2, .ref (a 168)), (3, .ref (a 199)), (4, .int (zI i))] [] o) : z_V κ z_T z_N a cells slots 465 [(0, .ref b), (1, .ref (a 0)), (2, .ref (a 168)), (3, .ref (a 199)), (4, .int (zI i))] [] st := by
  have hn9 := z_SXn hX
  refine z_aload_n (i := 1) 1 hc dL_law_465 rfl rfl ?_
  refine z_aload_n (i := 3) 3 hc dL_law_466 rfl rfl ?_
  unfold JL_5 at h
  obtain ⟨r, hr, h⟩ := z_b_some h
  refine z_callW (np := 2) [.ref (a 0), .ref (a 199)] hc hap kL_fit ml_RL_140 (z_t3 61 rfl rfl) (z_t1 0 rfl rfl) (by decide +kernel) (by decide) (fun l hl => c_L_fit hl hr) (by omega) rfl rfl (Nat.le_of_ble_eq_true rfl) h1 h2 dL_law_467 ?_
  refine z_istore [(5, .int (zI r.1)), (0, .ref b), (1, .ref (a 0)), (2, .ref (a 168)), (3, .ref (a 199)), (4, .int (zI i))] hc dL_law_470 (by decide) rfl ?_
  refine z_aload_n (i := 2) 3 hc dL_law_472 rfl rfl ?_
  obtain ⟨q, hq, h⟩ := z_b_some h
  refine z_callVJ [] hc hap o_X12_fit ml_RL_143 (fun l hl => c_X12_fit hl hq) (by omega) tT_168 (by decide) ⟨_, rfl, rfl⟩ rfl rfl (Nat.le_of_ble_eq_true rfl) (by omega) (by omega) dL_law_473 ?_
  refine z_lstore [(6, .long (zJ q.1)), (5, .int (zI r.1)), (0, .ref b), (1, .ref (a 0)), (2, .ref (a 168)), (3, .ref (a 199)), (4, .int (zI i))] hc dL_law_476 (by decide) rfl ?_
  refine z_aload_n (i := 2) 4 hc dL_law_478 rfl rfl ?_
  obtain ⟨t, ht, h⟩ := z_b_some h
  refine z_callVI [] hc hap o_X12_thrown ml_RL_121 (fun l hl => c_X12_thrown hl ht) (by omega) tT_168 (by decide) ⟨_, rfl, rfl⟩ rfl rfl (Nat.le_of_ble_eq_true rfl) (by omega) (by omega) dL_law_479 ?_
  refine z_iload 1 hc dL_law_482 rfl ?_
  obtain ⟨⟨hz9, he9⟩, h⟩ := z_g_some h
  refine z_icmp_eq (X := some ()) (Y := none) (o := ()) (tgt := 489) hc dL_law_484 (by decide) (by rw [z_g_pos hz9, if_pos he9]) (fun _ _ => ?_) (fun _ h9 => nomatch h9)
  refine z_iload 1 hc dL_law_489 rfl ?_
  obtain ⟨hv9, h⟩ := z_g_some h
  have h := Option.some.inj h
  subst h
  refine z_if_ne (X := some ()) (Y := some ()) (o := ()) (tgt := 505) hc dL_law_491 (by decide) (by rw [z_g_pos hz9.2]; split <;> rfl) (fun e9 _ => ?_) (fun _ _ => ?_)
  · refine z_aload_n (i := 3) 5 hc dL_law_494 rfl rfl ?_
    refine z_iconst hc dL_law_495 ?_
    refine z_lald (kI := 199) (nI9 := 1) (X := some ()) (o := ()) hc tT_199 (by decide) rfl rfl (by decide) dL_law_496 (z_g_pos (by decide)) (fun _ _ => ?_)
    refine z_lload 0 hc dL_law_497 rfl ?_
    refine z_lcmp_eq (X := some ()) (Y := none) (o := ()) (tgt := 505) hc dL_law_499 dL_law_500 (by decide) (by rw [z_g_pos ⟨(hv9 e9).2.1, (hv9 e9).2.2.1⟩, if_pos (hv9 e9).2.2.2]) (fun _ _ => ?_) (fun _ h9 => nomatch h9)
    refine z_goto (tgt := 2158) hc dL_law_505 (by decide) ?_
    refine z_sub [(0, .ref b), (1, .ref (a 0)), (2, .ref (a 168)), (3, .ref (a 199)), (4, .int (zI i))] [2, 3, 4, 5, 6] rfl ?_
    exact kk
  · refine z_goto (tgt := 2158) hc dL_law_505 (by decide) ?_
    refine z_sub [(0, .ref b), (1, .ref (a 0)), (2, .ref (a 168)), (3, .ref (a 199)), (4, .int (zI i))] [2, 3, 4, 5, 6] rfl ?_
    exact kk
def JL_6 (f : Int → Int) (i : Int) (st : z_St) : Option z_St :=
  z_b (J_L_sound (f (i + 1)) (f (i + 2)) (f (i + 3)) (f (i + 4)) st) fun r =>
  z_b (J_X12_sound (f (i + 1)) (f (i + 2)) (f (i + 3)) (f (i + 4)) r.2) fun q =>
  z_b (J_X12_thrown q.2) fun t =>
  z_g ((z32 t ∧ z32 r.1) ∧ t = r.1) <|
  z_g (r.1 = 0 → z32 q.1 ∧ z64 (q.2 199 0) ∧ z64 q.1 ∧ q.2 199 0 = q.1) <|
  some q.2
set_option maxRecDepth 100000 in
set_option maxHeartbeats 4000000 in
theorem wl_6 {κ : zK} {a : Nat → Nat} {f : Int → Int} {i : Int} {n b cells slots lam mc ms : Nat} {st o : z_St} (hc : z_C κ RL cL_law 8 lam mc ms) (hl9 : 30 ≤ lam) (hap : z_AP κ a z_N) (hX : z_SX κ b n f) (hi : 0 ≤ i ∧ i + 5 ≤ n) (h1 : cells + 1 ≤ mc) (h2 : slots + 6 ≤ ms) (h : JL_6 f i st = some o) (kk : z_V κ z_T z_N a (cells + 1) (slots + 6) 2158 [(0, .ref b), (1, .ref (a 0)), (2, .ref (a 168)), (3, .ref (a 199)), (4, .int (zI i))] [] o) : z_V κ z_T z_N a cells slots 508 [(0, .ref b), (1, .ref (a 0)), (2, .ref (a 168)), (3, .ref (a 199)), (4, .int (zI i))] [] st := by
  have hn9 := z_SXn hX
  refine z_aload_n (i := 1) 1 hc dL_law_508 rfl rfl ?_
  refine z_aload_n (i := 0) 0 hc dL_law_509 rfl rfl ?_
  refine z_iload 4 hc dL_law_510 rfl ?_
  refine z_iconst hc dL_law_512 ?_
  refine z_iadd hc dL_law_513 ?_
  refine z_sld hX hc dL_law_514 (by omega) ?_
  refine z_aload_n (i := 0) 0 hc dL_law_515 rfl rfl ?_
  refine z_iload 4 hc dL_law_516 rfl ?_
  refine z_iconst hc dL_law_518 ?_
  refine z_iadd hc dL_law_519 ?_
  refine z_sld hX hc dL_law_520 (by omega) ?_
  refine z_aload_n (i := 0) 0 hc dL_law_521 rfl rfl ?_
  refine z_iload 4 hc dL_law_522 rfl ?_
  refine z_iconst hc dL_law_524 ?_
  refine z_iadd hc dL_law_525 ?_
  refine z_sld hX hc dL_law_526 (by omega) ?_
  refine z_aload_n (i := 0) 0 hc dL_law_527 rfl rfl ?_
  refine z_iload 4 hc dL_law_528 rfl ?_
  refine z_iconst hc dL_law_530 ?_
  refine z_iadd hc dL_law_531 ?_
  refine z_sld hX hc dL_law_532 (by omega) ?_
  refine z_aload_n (i := 3) 3 hc dL_law_533 rfl rfl ?_
  unfold JL_6 at h
  obtain ⟨r, hr, h⟩ := z_b_some h
  refine z_callW (np := 6) [.ref (a 0), .int (zI (f (i + 1))), .int (zI (f (i + 2))), .int (zI (f (i + 3))), .int (zI (f (i + 4))), .ref (a 199)] hc hap kL_sound ml_RL_144 (z_t3 234 rfl rfl) (z_t1 0 rfl rfl) (by decide +kernel) (by decide) (fun l hl => c_L_sound hl hr) (by omega) rfl rfl (Nat.le_of_ble_eq_true rfl) h1 h2 dL_law_534 ?_
  refine z_istore [(5, .int (zI r.1)), (0, .ref b), (1, .ref (a 0)), (2, .ref (a 168)), (3, .ref (a 199)), (4, .int (zI i))] hc dL_law_537 (by decide) rfl ?_
  refine z_aload_n (i := 2) 3 hc dL_law_539 rfl rfl ?_
  refine z_aload_n (i := 0) 1 hc dL_law_540 rfl rfl ?_
  refine z_iload 5 hc dL_law_541 rfl ?_
  refine z_iconst hc dL_law_543 ?_
  refine z_iadd hc dL_law_544 ?_
  refine z_sld hX hc dL_law_545 (by omega) ?_
  refine z_aload_n (i := 0) 1 hc dL_law_546 rfl rfl ?_
  refine z_iload 5 hc dL_law_547 rfl ?_
  refine z_iconst hc dL_law_549 ?_
  refine z_iadd hc dL_law_550 ?_
  refine z_sld hX hc dL_law_551 (by omega) ?_
  refine z_aload_n (i := 0) 1 hc dL_law_552 rfl rfl ?_
  refine z_iload 5 hc dL_law_553 rfl ?_
  refine z_iconst hc dL_law_555 ?_
  refine z_iadd hc dL_law_556 ?_
  refine z_sld hX hc dL_law_557 (by omega) ?_
  refine z_aload_n (i := 0) 1 hc dL_law_558 rfl rfl ?_
  refine z_iload 5 hc dL_law_559 rfl ?_
  refine z_iconst hc dL_law_561 ?_
  refine z_iadd hc dL_law_562 ?_
  refine z_sld hX hc dL_law_563 (by omega) ?_
  obtain ⟨q, hq, h⟩ := z_b_some h
  refine z_callVI [.int (zI (f (i + 1))), .int (zI (f (i + 2))), .int (zI (f (i + 3))), .int (zI (f (i + 4)))] hc hap o_X12_sound ml_RL_147 (fun l hl => c_X12_sound hl hq) (by omega) tT_168 (by decide) ⟨_, rfl, rfl⟩ rfl rfl (Nat.le_of_ble_eq_true rfl) (by omega) (by omega) dL_law_564 ?_
  refine z_istore [(6, .int (zI q.1)), (5, .int (zI r.1)), (0, .ref b), (1, .ref (a 0)), (2, .ref (a 168)), (3, .ref (a 199)), (4, .int (zI i))] hc dL_law_567 (by decide) rfl ?_
  refine z_aload_n (i := 2) 4 hc dL_law_569 rfl rfl ?_
  obtain ⟨t, ht, h⟩ := z_b_some h
  refine z_callVI [] hc hap o_X12_thrown ml_RL_121 (fun l hl => c_X12_thrown hl ht) (by omega) tT_168 (by decide) ⟨_, rfl, rfl⟩ rfl rfl (Nat.le_of_ble_eq_true rfl) (by omega) (by omega) dL_law_570 ?_
  refine z_iload 1 hc dL_law_573 rfl ?_
  obtain ⟨⟨hz9, he9⟩, h⟩ := z_g_some h
  refine z_icmp_eq (X := some ()) (Y := none) (o := ()) (tgt := 580) hc dL_law_575 (by decide) (by rw [z_g_pos hz9, if_pos he9]) (fun _ _ => ?_) (fun _ h9 => nomatch h9)
  refine z_iload 1 hc dL_law_580 rfl ?_
  obtain ⟨hv9, h⟩ := z_g_some h
  have h := Option.some.inj h
  subst h
  refine z_if_ne (X := some ()) (Y := some ()) (o := ()) (tgt := 597) hc dL_law_582 (by decide) (by rw [z_g_pos hz9.2]; split <;> rfl) (fun e9 _ => ?_) (fun _ _ => ?_)
  · refine z_aload_n (i := 3) 5 hc dL_law_585 rfl rfl ?_
    refine z_iconst hc dL_law_586 ?_
    refine z_lald (kI := 199) (nI9 := 1) (X := some ()) (o := ()) hc tT_199 (by decide) rfl rfl (by decide) dL_law_587 (z_g_pos (by decide)) (fun _ _ => ?_)
    refine z_iload 0 hc dL_law_588 rfl ?_
    refine z_i2lc hc dL_law_590 (hv9 e9).1 ?_
    refine z_lcmp_eq (X := some ()) (Y := none) (o := ()) (tgt := 597) hc dL_law_591 dL_law_592 (by decide) (by rw [z_g_pos ⟨(hv9 e9).2.1, (hv9 e9).2.2.1⟩, if_pos (hv9 e9).2.2.2]) (fun _ _ => ?_) (fun _ h9 => nomatch h9)
    refine z_goto (tgt := 2158) hc dL_law_597 (by decide) ?_
    refine z_sub [(0, .ref b), (1, .ref (a 0)), (2, .ref (a 168)), (3, .ref (a 199)), (4, .int (zI i))] [2, 3, 4, 5, 6] rfl ?_
    exact kk
  · refine z_goto (tgt := 2158) hc dL_law_597 (by decide) ?_
    refine z_sub [(0, .ref b), (1, .ref (a 0)), (2, .ref (a 168)), (3, .ref (a 199)), (4, .int (zI i))] [2, 3, 4, 5, 6] rfl ?_
    exact kk
def JL_7 (f : Int → Int) (i : Int) (st : z_St) : Option z_St :=
  z_b (J_L_question (f (i + 1)) (f (i + 2)) (f (i + 3)) (f (i + 4)) st) fun r =>
  z_b (J_X12_question (f (i + 1)) (f (i + 2)) (f (i + 3)) (f (i + 4)) r.2) fun q =>
  z_b (J_X12_thrown q.2) fun t =>
  z_g ((z32 t ∧ z32 r.1) ∧ t = r.1) <|
  z_g (r.1 = 0 → z32 q.1 ∧ z64 (q.2 199 0) ∧ z64 q.1 ∧ q.2 199 0 = q.1) <|
  some q.2
set_option maxRecDepth 100000 in
set_option maxHeartbeats 4000000 in
theorem wl_7 {κ : zK} {a : Nat → Nat} {f : Int → Int} {i : Int} {n b cells slots lam mc ms : Nat} {st o : z_St} (hc : z_C κ RL cL_law 8 lam mc ms) (hl9 : 30 ≤ lam) (hap : z_AP κ a z_N) (hX : z_SX κ b n f) (hi : 0 ≤ i ∧ i + 5 ≤ n) (h1 : cells + 1 ≤ mc) (h2 : slots + 6 ≤ ms) (h : JL_7 f i st = some o) (kk : z_V κ z_T z_N a (cells + 1) (slots + 6) 2158 [(0, .ref b), (1, .ref (a 0)), (2, .ref (a 168)), (3, .ref (a 199)), (4, .int (zI i))] [] o) : z_V κ z_T z_N a cells slots 600 [(0, .ref b), (1, .ref (a 0)), (2, .ref (a 168)), (3, .ref (a 199)), (4, .int (zI i))] [] st := by
  have hn9 := z_SXn hX
  refine z_aload_n (i := 1) 1 hc dL_law_600 rfl rfl ?_
  refine z_aload_n (i := 0) 0 hc dL_law_601 rfl rfl ?_
  refine z_iload 4 hc dL_law_602 rfl ?_
  refine z_iconst hc dL_law_604 ?_
  refine z_iadd hc dL_law_605 ?_
  refine z_sld hX hc dL_law_606 (by omega) ?_
  refine z_aload_n (i := 0) 0 hc dL_law_607 rfl rfl ?_
  refine z_iload 4 hc dL_law_608 rfl ?_
  refine z_iconst hc dL_law_610 ?_
  refine z_iadd hc dL_law_611 ?_
  refine z_sld hX hc dL_law_612 (by omega) ?_
  refine z_aload_n (i := 0) 0 hc dL_law_613 rfl rfl ?_
  refine z_iload 4 hc dL_law_614 rfl ?_
  refine z_iconst hc dL_law_616 ?_
  refine z_iadd hc dL_law_617 ?_
  refine z_sld hX hc dL_law_618 (by omega) ?_
  refine z_aload_n (i := 0) 0 hc dL_law_619 rfl rfl ?_
  refine z_iload 4 hc dL_law_620 rfl ?_
  refine z_iconst hc dL_law_622 ?_
  refine z_iadd hc dL_law_623 ?_
  refine z_sld hX hc dL_law_624 (by omega) ?_
  refine z_aload_n (i := 3) 3 hc dL_law_625 rfl rfl ?_
  unfold JL_7 at h
  obtain ⟨r, hr, h⟩ := z_b_some h
  refine z_callW (np := 6) [.ref (a 0), .int (zI (f (i + 1))), .int (zI (f (i + 2))), .int (zI (f (i + 3))), .int (zI (f (i + 4))), .ref (a 199)] hc hap kL_question ml_RL_148 (z_t4 2 rfl rfl) (z_t1 0 rfl rfl) (by decide +kernel) (by decide) (fun l hl => c_L_question hl hr) (by omega) rfl rfl (Nat.le_of_ble_eq_true rfl) h1 h2 dL_law_626 ?_
  refine z_istore [(5, .int (zI r.1)), (0, .ref b), (1, .ref (a 0)), (2, .ref (a 168)), (3, .ref (a 199)), (4, .int (zI i))] hc dL_law_629 (by decide) rfl ?_
  refine z_aload_n (i := 2) 3 hc dL_law_631 rfl rfl ?_
  refine z_aload_n (i := 0) 1 hc dL_law_632 rfl rfl ?_
  refine z_iload 5 hc dL_law_633 rfl ?_
  refine z_iconst hc dL_law_635 ?_
  refine z_iadd hc dL_law_636 ?_
  refine z_sld hX hc dL_law_637 (by omega) ?_
  refine z_aload_n (i := 0) 1 hc dL_law_638 rfl rfl ?_
  refine z_iload 5 hc dL_law_639 rfl ?_
  refine z_iconst hc dL_law_641 ?_
  refine z_iadd hc dL_law_642 ?_
  refine z_sld hX hc dL_law_643 (by omega) ?_
  refine z_aload_n (i := 0) 1 hc dL_law_644 rfl rfl ?_
  refine z_iload 5 hc dL_law_645 rfl ?_
  refine z_iconst hc dL_law_647 ?_
  refine z_iadd hc dL_law_648 ?_
  refine z_sld hX hc dL_law_649 (by omega) ?_
  refine z_aload_n (i := 0) 1 hc dL_law_650 rfl rfl ?_
  refine z_iload 5 hc dL_law_651 rfl ?_
  refine z_iconst hc dL_law_653 ?_
  refine z_iadd hc dL_law_654 ?_
  refine z_sld hX hc dL_law_655 (by omega) ?_
  obtain ⟨q, hq, h⟩ := z_b_some h
  refine z_callVI [.int (zI (f (i + 1))), .int (zI (f (i + 2))), .int (zI (f (i + 3))), .int (zI (f (i + 4)))] hc hap o_X12_question ml_RL_150 (fun l hl => c_X12_question hl hq) (by omega) tT_168 (by decide) ⟨_, rfl, rfl⟩ rfl rfl (Nat.le_of_ble_eq_true rfl) (by omega) (by omega) dL_law_656 ?_
  refine z_istore [(6, .int (zI q.1)), (5, .int (zI r.1)), (0, .ref b), (1, .ref (a 0)), (2, .ref (a 168)), (3, .ref (a 199)), (4, .int (zI i))] hc dL_law_659 (by decide) rfl ?_
  refine z_aload_n (i := 2) 4 hc dL_law_661 rfl rfl ?_
  obtain ⟨t, ht, h⟩ := z_b_some h
  refine z_callVI [] hc hap o_X12_thrown ml_RL_121 (fun l hl => c_X12_thrown hl ht) (by omega) tT_168 (by decide) ⟨_, rfl, rfl⟩ rfl rfl (Nat.le_of_ble_eq_true rfl) (by omega) (by omega) dL_law_662 ?_
  refine z_iload 1 hc dL_law_665 rfl ?_
  obtain ⟨⟨hz9, he9⟩, h⟩ := z_g_some h
  refine z_icmp_eq (X := some ()) (Y := none) (o := ()) (tgt := 672) hc dL_law_667 (by decide) (by rw [z_g_pos hz9, if_pos he9]) (fun _ _ => ?_) (fun _ h9 => nomatch h9)
  refine z_iload 1 hc dL_law_672 rfl ?_
  obtain ⟨hv9, h⟩ := z_g_some h
  have h := Option.some.inj h
  subst h
  refine z_if_ne (X := some ()) (Y := some ()) (o := ()) (tgt := 689) hc dL_law_674 (by decide) (by rw [z_g_pos hz9.2]; split <;> rfl) (fun e9 _ => ?_) (fun _ _ => ?_)
  · refine z_aload_n (i := 3) 5 hc dL_law_677 rfl rfl ?_
    refine z_iconst hc dL_law_678 ?_
    refine z_lald (kI := 199) (nI9 := 1) (X := some ()) (o := ()) hc tT_199 (by decide) rfl rfl (by decide) dL_law_679 (z_g_pos (by decide)) (fun _ _ => ?_)
    refine z_iload 0 hc dL_law_680 rfl ?_
    refine z_i2lc hc dL_law_682 (hv9 e9).1 ?_
    refine z_lcmp_eq (X := some ()) (Y := none) (o := ()) (tgt := 689) hc dL_law_683 dL_law_684 (by decide) (by rw [z_g_pos ⟨(hv9 e9).2.1, (hv9 e9).2.2.1⟩, if_pos (hv9 e9).2.2.2]) (fun _ _ => ?_) (fun _ h9 => nomatch h9)
    refine z_goto (tgt := 2158) hc dL_law_689 (by decide) ?_
    refine z_sub [(0, .ref b), (1, .ref (a 0)), (2, .ref (a 168)), (3, .ref (a 199)), (4, .int (zI i))] [2, 3, 4, 5, 6] rfl ?_
    exact kk
  · refine z_goto (tgt := 2158) hc dL_law_689 (by decide) ?_
    refine z_sub [(0, .ref b), (1, .ref (a 0)), (2, .ref (a 168)), (3, .ref (a 199)), (4, .int (zI i))] [2, 3, 4, 5, 6] rfl ?_
    exact kk
def JL_8 (f : Int → Int) (i : Int) (st : z_St) : Option z_St :=
  z_b (J_L_type (z_i2cv (f (i + 1))) st) fun r =>
  z_b (J_X12_type (z_i2cv (f (i + 1))) r.2) fun q =>
  z_b (J_X12_thrown q.2) fun t =>
  z_g ((z32 t ∧ z32 r.1) ∧ t = r.1) <|
  z_g (r.1 = 0 → z32 q.1 ∧ z64 (q.2 199 0) ∧ z64 q.1 ∧ q.2 199 0 = q.1) <|
  some q.2
set_option maxRecDepth 100000 in
set_option maxHeartbeats 4000000 in
theorem wl_8 {κ : zK} {a : Nat → Nat} {f : Int → Int} {i : Int} {n b cells slots lam mc ms : Nat} {st o : z_St} (hc : z_C κ RL cL_law 8 lam mc ms) (hl9 : 30 ≤ lam) (hap : z_AP κ a z_N) (hX : z_SX κ b n f) (hi : 0 ≤ i ∧ i + 5 ≤ n) (h1 : cells + 1 ≤ mc) (h2 : slots + 6 ≤ ms) (h : JL_8 f i st = some o) (kk : z_V κ z_T z_N a (cells + 1) (slots + 6) 2158 [(0, .ref b), (1, .ref (a 0)), (2, .ref (a 168)), (3, .ref (a 199)), (4, .int (zI i))] [] o) : z_V κ z_T z_N a cells slots 692 [(0, .ref b), (1, .ref (a 0)), (2, .ref (a 168)), (3, .ref (a 199)), (4, .int (zI i))] [] st := by
  have hn9 := z_SXn hX
  refine z_aload_n (i := 1) 1 hc dL_law_692 rfl rfl ?_
  refine z_aload_n (i := 0) 0 hc dL_law_693 rfl rfl ?_
  refine z_iload 4 hc dL_law_694 rfl ?_
  refine z_iconst hc dL_law_696 ?_
  refine z_iadd hc dL_law_697 ?_
  refine z_sld hX hc dL_law_698 (by omega) ?_
  refine z_i2c_r hc dL_law_699 ?_
  refine z_aload_n (i := 3) 3 hc dL_law_700 rfl rfl ?_
  unfold JL_8 at h
  obtain ⟨r, hr, h⟩ := z_b_some h
  refine z_callW (np := 3) [.ref (a 0), .int (zI (z_i2cv (f (i + 1)))), .ref (a 199)] hc hap kL_type ml_RL_151 (z_t4 14 rfl rfl) (z_t1 0 rfl rfl) (by decide +kernel) (by decide) (fun l hl => c_L_type hl hr) (by omega) rfl rfl (Nat.le_of_ble_eq_true rfl) h1 h2 dL_law_701 ?_
  refine z_istore [(5, .int (zI r.1)), (0, .ref b), (1, .ref (a 0)), (2, .ref (a 168)), (3, .ref (a 199)), (4, .int (zI i))] hc dL_law_704 (by decide) rfl ?_
  refine z_aload_n (i := 2) 3 hc dL_law_706 rfl rfl ?_
  refine z_aload_n (i := 0) 1 hc dL_law_707 rfl rfl ?_
  refine z_iload 5 hc dL_law_708 rfl ?_
  refine z_iconst hc dL_law_710 ?_
  refine z_iadd hc dL_law_711 ?_
  refine z_sld hX hc dL_law_712 (by omega) ?_
  refine z_i2c_r hc dL_law_713 ?_
  obtain ⟨q, hq, h⟩ := z_b_some h
  refine z_callVI [.int (zI (z_i2cv (f (i + 1))))] hc hap o_X12_type ml_RL_154 (fun l hl => c_X12_type hl hq) (by omega) tT_168 (by decide) ⟨_, rfl, rfl⟩ rfl rfl (Nat.le_of_ble_eq_true rfl) (by omega) (by omega) dL_law_714 ?_
  refine z_istore [(6, .int (zI q.1)), (5, .int (zI r.1)), (0, .ref b), (1, .ref (a 0)), (2, .ref (a 168)), (3, .ref (a 199)), (4, .int (zI i))] hc dL_law_717 (by decide) rfl ?_
  refine z_aload_n (i := 2) 4 hc dL_law_719 rfl rfl ?_
  obtain ⟨t, ht, h⟩ := z_b_some h
  refine z_callVI [] hc hap o_X12_thrown ml_RL_121 (fun l hl => c_X12_thrown hl ht) (by omega) tT_168 (by decide) ⟨_, rfl, rfl⟩ rfl rfl (Nat.le_of_ble_eq_true rfl) (by omega) (by omega) dL_law_720 ?_
  refine z_iload 1 hc dL_law_723 rfl ?_
  obtain ⟨⟨hz9, he9⟩, h⟩ := z_g_some h
  refine z_icmp_eq (X := some ()) (Y := none) (o := ()) (tgt := 730) hc dL_law_725 (by decide) (by rw [z_g_pos hz9, if_pos he9]) (fun _ _ => ?_) (fun _ h9 => nomatch h9)
  refine z_iload 1 hc dL_law_730 rfl ?_
  obtain ⟨hv9, h⟩ := z_g_some h
  have h := Option.some.inj h
  subst h
  refine z_if_ne (X := some ()) (Y := some ()) (o := ()) (tgt := 747) hc dL_law_732 (by decide) (by rw [z_g_pos hz9.2]; split <;> rfl) (fun e9 _ => ?_) (fun _ _ => ?_)
  · refine z_aload_n (i := 3) 5 hc dL_law_735 rfl rfl ?_
    refine z_iconst hc dL_law_736 ?_
    refine z_lald (kI := 199) (nI9 := 1) (X := some ()) (o := ()) hc tT_199 (by decide) rfl rfl (by decide) dL_law_737 (z_g_pos (by decide)) (fun _ _ => ?_)
    refine z_iload 0 hc dL_law_738 rfl ?_
    refine z_i2lc hc dL_law_740 (hv9 e9).1 ?_
    refine z_lcmp_eq (X := some ()) (Y := none) (o := ()) (tgt := 747) hc dL_law_741 dL_law_742 (by decide) (by rw [z_g_pos ⟨(hv9 e9).2.1, (hv9 e9).2.2.1⟩, if_pos (hv9 e9).2.2.2]) (fun _ _ => ?_) (fun _ h9 => nomatch h9)
    refine z_goto (tgt := 2158) hc dL_law_747 (by decide) ?_
    refine z_sub [(0, .ref b), (1, .ref (a 0)), (2, .ref (a 168)), (3, .ref (a 199)), (4, .int (zI i))] [2, 3, 4, 5, 6] rfl ?_
    exact kk
  · refine z_goto (tgt := 2158) hc dL_law_747 (by decide) ?_
    refine z_sub [(0, .ref b), (1, .ref (a 0)), (2, .ref (a 168)), (3, .ref (a 199)), (4, .int (zI i))] [2, 3, 4, 5, 6] rfl ?_
    exact kk
def JL_9 (f : Int → Int) (i : Int) (st : z_St) : Option z_St :=
  z_b (J_L_word (f (i + 1)) st) fun r =>
  z_b (J_X12_word (f (i + 1)) r.2) fun q =>
  z_b (J_X12_thrown q.2) fun t =>
  z_g ((z32 t ∧ z32 r.1) ∧ t = r.1) <|
  z_g (r.1 = 0 → z32 q.1 ∧ z64 (q.2 199 0) ∧ z64 q.1 ∧ q.2 199 0 = q.1) <|
  some q.2
set_option maxRecDepth 100000 in
set_option maxHeartbeats 4000000 in
theorem wl_9 {κ : zK} {a : Nat → Nat} {f : Int → Int} {i : Int} {n b cells slots lam mc ms : Nat} {st o : z_St} (hc : z_C κ RL cL_law 8 lam mc ms) (hl9 : 30 ≤ lam) (hap : z_AP κ a z_N) (hX : z_SX κ b n f) (hi : 0 ≤ i ∧ i + 5 ≤ n) (h1 : cells + 1 ≤ mc) (h2 : slots + 6 ≤ ms) (h : JL_9 f i st = some o) (kk : z_V κ z_T z_N a (cells + 1) (slots + 6) 2158 [(0, .ref b), (1, .ref (a 0)), (2, .ref (a 168)), (3, .ref (a 199)), (4, .int (zI i))] [] o) : z_V κ z_T z_N a cells slots 750 [(0, .ref b), (1, .ref (a 0)), (2, .ref (a 168)), (3, .ref (a 199)), (4, .int (zI i))] [] st := by
  have hn9 := z_SXn hX
  refine z_aload_n (i := 1) 1 hc dL_law_750 rfl rfl ?_
  refine z_aload_n (i := 0) 0 hc dL_law_751 rfl rfl ?_
  refine z_iload 4 hc dL_law_752 rfl ?_
  refine z_iconst hc dL_law_754 ?_
  refine z_iadd hc dL_law_755 ?_
  refine z_sld hX hc dL_law_756 (by omega) ?_
  refine z_aload_n (i := 3) 3 hc dL_law_757 rfl rfl ?_
  unfold JL_9 at h
  obtain ⟨r, hr, h⟩ := z_b_some h
  refine z_callW (np := 3) [.ref (a 0), .int (zI (f (i + 1))), .ref (a 199)] hc hap kL_word ml_RL_155 (z_t4 22 rfl rfl) (z_t1 0 rfl rfl) (by decide +kernel) (by decide) (fun l hl => c_L_word hl hr) (by omega) rfl rfl (Nat.le_of_ble_eq_true rfl) h1 h2 dL_law_758 ?_
  refine z_istore [(5, .int (zI r.1)), (0, .ref b), (1, .ref (a 0)), (2, .ref (a 168)), (3, .ref (a 199)), (4, .int (zI i))] hc dL_law_761 (by decide) rfl ?_
  refine z_aload_n (i := 2) 3 hc dL_law_763 rfl rfl ?_
  refine z_aload_n (i := 0) 1 hc dL_law_764 rfl rfl ?_
  refine z_iload 5 hc dL_law_765 rfl ?_
  refine z_iconst hc dL_law_767 ?_
  refine z_iadd hc dL_law_768 ?_
  refine z_sld hX hc dL_law_769 (by omega) ?_
  obtain ⟨q, hq, h⟩ := z_b_some h
  refine z_callVI [.int (zI (f (i + 1)))] hc hap o_X12_word ml_RL_157 (fun l hl => c_X12_word hl hq) (by omega) tT_168 (by decide) ⟨_, rfl, rfl⟩ rfl rfl (Nat.le_of_ble_eq_true rfl) (by omega) (by omega) dL_law_770 ?_
  refine z_istore [(6, .int (zI q.1)), (5, .int (zI r.1)), (0, .ref b), (1, .ref (a 0)), (2, .ref (a 168)), (3, .ref (a 199)), (4, .int (zI i))] hc dL_law_773 (by decide) rfl ?_
  refine z_aload_n (i := 2) 4 hc dL_law_775 rfl rfl ?_
  obtain ⟨t, ht, h⟩ := z_b_some h
  refine z_callVI [] hc hap o_X12_thrown ml_RL_121 (fun l hl => c_X12_thrown hl ht) (by omega) tT_168 (by decide) ⟨_, rfl, rfl⟩ rfl rfl (Nat.le_of_ble_eq_true rfl) (by omega) (by omega) dL_law_776 ?_
  refine z_iload 1 hc dL_law_779 rfl ?_
  obtain ⟨⟨hz9, he9⟩, h⟩ := z_g_some h
  refine z_icmp_eq (X := some ()) (Y := none) (o := ()) (tgt := 786) hc dL_law_781 (by decide) (by rw [z_g_pos hz9, if_pos he9]) (fun _ _ => ?_) (fun _ h9 => nomatch h9)
  refine z_iload 1 hc dL_law_786 rfl ?_
  obtain ⟨hv9, h⟩ := z_g_some h
  have h := Option.some.inj h
  subst h
  refine z_if_ne (X := some ()) (Y := some ()) (o := ()) (tgt := 803) hc dL_law_788 (by decide) (by rw [z_g_pos hz9.2]; split <;> rfl) (fun e9 _ => ?_) (fun _ _ => ?_)
  · refine z_aload_n (i := 3) 5 hc dL_law_791 rfl rfl ?_
    refine z_iconst hc dL_law_792 ?_
    refine z_lald (kI := 199) (nI9 := 1) (X := some ()) (o := ()) hc tT_199 (by decide) rfl rfl (by decide) dL_law_793 (z_g_pos (by decide)) (fun _ _ => ?_)
    refine z_iload 0 hc dL_law_794 rfl ?_
    refine z_i2lc hc dL_law_796 (hv9 e9).1 ?_
    refine z_lcmp_eq (X := some ()) (Y := none) (o := ()) (tgt := 803) hc dL_law_797 dL_law_798 (by decide) (by rw [z_g_pos ⟨(hv9 e9).2.1, (hv9 e9).2.2.1⟩, if_pos (hv9 e9).2.2.2]) (fun _ _ => ?_) (fun _ h9 => nomatch h9)
    refine z_goto (tgt := 2158) hc dL_law_803 (by decide) ?_
    refine z_sub [(0, .ref b), (1, .ref (a 0)), (2, .ref (a 168)), (3, .ref (a 199)), (4, .int (zI i))] [2, 3, 4, 5, 6] rfl ?_
    exact kk
  · refine z_goto (tgt := 2158) hc dL_law_803 (by decide) ?_
    refine z_sub [(0, .ref b), (1, .ref (a 0)), (2, .ref (a 168)), (3, .ref (a 199)), (4, .int (zI i))] [2, 3, 4, 5, 6] rfl ?_
    exact kk
def JL_10 (f : Int → Int) (i : Int) (st : z_St) : Option z_St :=
  z_b (J_L_saying (f (i + 1)) (f (i + 2)) st) fun r =>
  z_b (J_X12_saying (f (i + 1)) (f (i + 2)) r.2) fun q =>
  z_b (J_X12_thrown q.2) fun t =>
  z_g ((z32 t ∧ z32 r.1) ∧ t = r.1) <|
  z_g (r.1 = 0 → z32 q.1 ∧ z64 (q.2 199 0) ∧ z64 q.1 ∧ q.2 199 0 = q.1) <|
  some q.2
set_option maxRecDepth 100000 in
set_option maxHeartbeats 4000000 in
theorem wl_10 {κ : zK} {a : Nat → Nat} {f : Int → Int} {i : Int} {n b cells slots lam mc ms : Nat} {st o : z_St} (hc : z_C κ RL cL_law 8 lam mc ms) (hl9 : 30 ≤ lam) (hap : z_AP κ a z_N) (hX : z_SX κ b n f) (hi : 0 ≤ i ∧ i + 5 ≤ n) (h1 : cells + 1 ≤ mc) (h2 : slots + 6 ≤ ms) (h : JL_10 f i st = some o) (kk : z_V κ z_T z_N a (cells + 1) (slots + 6) 2158 [(0, .ref b), (1, .ref (a 0)), (2, .ref (a 168)), (3, .ref (a 199)), (4, .int (zI i))] [] o) : z_V κ z_T z_N a cells slots 806 [(0, .ref b), (1, .ref (a 0)), (2, .ref (a 168)), (3, .ref (a 199)), (4, .int (zI i))] [] st := by
  have hn9 := z_SXn hX
  refine z_aload_n (i := 1) 1 hc dL_law_806 rfl rfl ?_
  refine z_aload_n (i := 0) 0 hc dL_law_807 rfl rfl ?_
  refine z_iload 4 hc dL_law_808 rfl ?_
  refine z_iconst hc dL_law_810 ?_
  refine z_iadd hc dL_law_811 ?_
  refine z_sld hX hc dL_law_812 (by omega) ?_
  refine z_aload_n (i := 0) 0 hc dL_law_813 rfl rfl ?_
  refine z_iload 4 hc dL_law_814 rfl ?_
  refine z_iconst hc dL_law_816 ?_
  refine z_iadd hc dL_law_817 ?_
  refine z_sld hX hc dL_law_818 (by omega) ?_
  refine z_aload_n (i := 3) 3 hc dL_law_819 rfl rfl ?_
  unfold JL_10 at h
  obtain ⟨r, hr, h⟩ := z_b_some h
  refine z_callW (np := 4) [.ref (a 0), .int (zI (f (i + 1))), .int (zI (f (i + 2))), .ref (a 199)] hc hap kL_saying ml_RL_158 (z_t4 42 rfl rfl) (z_t1 0 rfl rfl) (by decide +kernel) (by decide) (fun l hl => c_L_saying hl hr) (by omega) rfl rfl (Nat.le_of_ble_eq_true rfl) h1 h2 dL_law_820 ?_
  refine z_istore [(5, .int (zI r.1)), (0, .ref b), (1, .ref (a 0)), (2, .ref (a 168)), (3, .ref (a 199)), (4, .int (zI i))] hc dL_law_823 (by decide) rfl ?_
  refine z_aload_n (i := 2) 3 hc dL_law_825 rfl rfl ?_
  refine z_aload_n (i := 0) 1 hc dL_law_826 rfl rfl ?_
  refine z_iload 5 hc dL_law_827 rfl ?_
  refine z_iconst hc dL_law_829 ?_
  refine z_iadd hc dL_law_830 ?_
  refine z_sld hX hc dL_law_831 (by omega) ?_
  refine z_aload_n (i := 0) 1 hc dL_law_832 rfl rfl ?_
  refine z_iload 5 hc dL_law_833 rfl ?_
  refine z_iconst hc dL_law_835 ?_
  refine z_iadd hc dL_law_836 ?_
  refine z_sld hX hc dL_law_837 (by omega) ?_
  obtain ⟨q, hq, h⟩ := z_b_some h
  refine z_callVI [.int (zI (f (i + 1))), .int (zI (f (i + 2)))] hc hap o_X12_saying ml_RL_160 (fun l hl => c_X12_saying hl hq) (by omega) tT_168 (by decide) ⟨_, rfl, rfl⟩ rfl rfl (Nat.le_of_ble_eq_true rfl) (by omega) (by omega) dL_law_838 ?_
  refine z_istore [(6, .int (zI q.1)), (5, .int (zI r.1)), (0, .ref b), (1, .ref (a 0)), (2, .ref (a 168)), (3, .ref (a 199)), (4, .int (zI i))] hc dL_law_841 (by decide) rfl ?_
  refine z_aload_n (i := 2) 4 hc dL_law_843 rfl rfl ?_
  obtain ⟨t, ht, h⟩ := z_b_some h
  refine z_callVI [] hc hap o_X12_thrown ml_RL_121 (fun l hl => c_X12_thrown hl ht) (by omega) tT_168 (by decide) ⟨_, rfl, rfl⟩ rfl rfl (Nat.le_of_ble_eq_true rfl) (by omega) (by omega) dL_law_844 ?_
  refine z_iload 1 hc dL_law_847 rfl ?_
  obtain ⟨⟨hz9, he9⟩, h⟩ := z_g_some h
  refine z_icmp_eq (X := some ()) (Y := none) (o := ()) (tgt := 854) hc dL_law_849 (by decide) (by rw [z_g_pos hz9, if_pos he9]) (fun _ _ => ?_) (fun _ h9 => nomatch h9)
  refine z_iload 1 hc dL_law_854 rfl ?_
  obtain ⟨hv9, h⟩ := z_g_some h
  have h := Option.some.inj h
  subst h
  refine z_if_ne (X := some ()) (Y := some ()) (o := ()) (tgt := 871) hc dL_law_856 (by decide) (by rw [z_g_pos hz9.2]; split <;> rfl) (fun e9 _ => ?_) (fun _ _ => ?_)
  · refine z_aload_n (i := 3) 5 hc dL_law_859 rfl rfl ?_
    refine z_iconst hc dL_law_860 ?_
    refine z_lald (kI := 199) (nI9 := 1) (X := some ()) (o := ()) hc tT_199 (by decide) rfl rfl (by decide) dL_law_861 (z_g_pos (by decide)) (fun _ _ => ?_)
    refine z_iload 0 hc dL_law_862 rfl ?_
    refine z_i2lc hc dL_law_864 (hv9 e9).1 ?_
    refine z_lcmp_eq (X := some ()) (Y := none) (o := ()) (tgt := 871) hc dL_law_865 dL_law_866 (by decide) (by rw [z_g_pos ⟨(hv9 e9).2.1, (hv9 e9).2.2.1⟩, if_pos (hv9 e9).2.2.2]) (fun _ _ => ?_) (fun _ h9 => nomatch h9)
    refine z_goto (tgt := 2158) hc dL_law_871 (by decide) ?_
    refine z_sub [(0, .ref b), (1, .ref (a 0)), (2, .ref (a 168)), (3, .ref (a 199)), (4, .int (zI i))] [2, 3, 4, 5, 6] rfl ?_
    exact kk
  · refine z_goto (tgt := 2158) hc dL_law_871 (by decide) ?_
    refine z_sub [(0, .ref b), (1, .ref (a 0)), (2, .ref (a 168)), (3, .ref (a 199)), (4, .int (zI i))] [2, 3, 4, 5, 6] rfl ?_
    exact kk
def JL_11 (f : Int → Int) (i : Int) (st : z_St) : Option z_St :=
  z_b (J_L_form (f (i + 1)) (f (i + 2)) (f (i + 3)) st) fun r =>
  z_b (J_X12_form (f (i + 1)) (f (i + 2)) (f (i + 3)) r.2) fun q =>
  z_b (J_X12_thrown q.2) fun t =>
  z_g ((z32 t ∧ z32 r.1) ∧ t = r.1) <|
  z_g (r.1 = 0 → z32 q.1 ∧ z64 (q.2 199 0) ∧ z64 q.1 ∧ q.2 199 0 = q.1) <|
  some q.2
set_option maxRecDepth 100000 in
set_option maxHeartbeats 4000000 in
theorem wl_11 {κ : zK} {a : Nat → Nat} {f : Int → Int} {i : Int} {n b cells slots lam mc ms : Nat} {st o : z_St} (hc : z_C κ RL cL_law 8 lam mc ms) (hl9 : 30 ≤ lam) (hap : z_AP κ a z_N) (hX : z_SX κ b n f) (hi : 0 ≤ i ∧ i + 5 ≤ n) (h1 : cells + 1 ≤ mc) (h2 : slots + 6 ≤ ms) (h : JL_11 f i st = some o) (kk : z_V κ z_T z_N a (cells + 1) (slots + 6) 2158 [(0, .ref b), (1, .ref (a 0)), (2, .ref (a 168)), (3, .ref (a 199)), (4, .int (zI i))] [] o) : z_V κ z_T z_N a cells slots 874 [(0, .ref b), (1, .ref (a 0)), (2, .ref (a 168)), (3, .ref (a 199)), (4, .int (zI i))] [] st := by
  have hn9 := z_SXn hX
  refine z_aload_n (i := 1) 1 hc dL_law_874 rfl rfl ?_
  refine z_aload_n (i := 0) 0 hc dL_law_875 rfl rfl ?_
  refine z_iload 4 hc dL_law_876 rfl ?_
  refine z_iconst hc dL_law_878 ?_
  refine z_iadd hc dL_law_879 ?_
  refine z_sld hX hc dL_law_880 (by omega) ?_
  refine z_aload_n (i := 0) 0 hc dL_law_881 rfl rfl ?_
  refine z_iload 4 hc dL_law_882 rfl ?_
  refine z_iconst hc dL_law_884 ?_
  refine z_iadd hc dL_law_885 ?_
  refine z_sld hX hc dL_law_886 (by omega) ?_
  refine z_aload_n (i := 0) 0 hc dL_law_887 rfl rfl ?_
  refine z_iload 4 hc dL_law_888 rfl ?_
  refine z_iconst hc dL_law_890 ?_
  refine z_iadd hc dL_law_891 ?_
  refine z_sld hX hc dL_law_892 (by omega) ?_
  refine z_aload_n (i := 3) 3 hc dL_law_893 rfl rfl ?_
  unfold JL_11 at h
  obtain ⟨r, hr, h⟩ := z_b_some h
  refine z_callW (np := 5) [.ref (a 0), .int (zI (f (i + 1))), .int (zI (f (i + 2))), .int (zI (f (i + 3))), .ref (a 199)] hc hap kL_form ml_RL_161 (z_t4 50 rfl rfl) (z_t1 0 rfl rfl) (by decide +kernel) (by decide) (fun l hl => c_L_form hl hr) (by omega) rfl rfl (Nat.le_of_ble_eq_true rfl) h1 h2 dL_law_894 ?_
  refine z_istore [(5, .int (zI r.1)), (0, .ref b), (1, .ref (a 0)), (2, .ref (a 168)), (3, .ref (a 199)), (4, .int (zI i))] hc dL_law_897 (by decide) rfl ?_
  refine z_aload_n (i := 2) 3 hc dL_law_899 rfl rfl ?_
  refine z_aload_n (i := 0) 1 hc dL_law_900 rfl rfl ?_
  refine z_iload 5 hc dL_law_901 rfl ?_
  refine z_iconst hc dL_law_903 ?_
  refine z_iadd hc dL_law_904 ?_
  refine z_sld hX hc dL_law_905 (by omega) ?_
  refine z_aload_n (i := 0) 1 hc dL_law_906 rfl rfl ?_
  refine z_iload 5 hc dL_law_907 rfl ?_
  refine z_iconst hc dL_law_909 ?_
  refine z_iadd hc dL_law_910 ?_
  refine z_sld hX hc dL_law_911 (by omega) ?_
  refine z_aload_n (i := 0) 1 hc dL_law_912 rfl rfl ?_
  refine z_iload 5 hc dL_law_913 rfl ?_
  refine z_iconst hc dL_law_915 ?_
  refine z_iadd hc dL_law_916 ?_
  refine z_sld hX hc dL_law_917 (by omega) ?_
  obtain ⟨q, hq, h⟩ := z_b_some h
  refine z_callVI [.int (zI (f (i + 1))), .int (zI (f (i + 2))), .int (zI (f (i + 3)))] hc hap o_X12_form ml_RL_163 (fun l hl => c_X12_form hl hq) (by omega) tT_168 (by decide) ⟨_, rfl, rfl⟩ rfl rfl (Nat.le_of_ble_eq_true rfl) (by omega) (by omega) dL_law_918 ?_
  refine z_istore [(6, .int (zI q.1)), (5, .int (zI r.1)), (0, .ref b), (1, .ref (a 0)), (2, .ref (a 168)), (3, .ref (a 199)), (4, .int (zI i))] hc dL_law_921 (by decide) rfl ?_
  refine z_aload_n (i := 2) 4 hc dL_law_923 rfl rfl ?_
  obtain ⟨t, ht, h⟩ := z_b_some h
  refine z_callVI [] hc hap o_X12_thrown ml_RL_121 (fun l hl => c_X12_thrown hl ht) (by omega) tT_168 (by decide) ⟨_, rfl, rfl⟩ rfl rfl (Nat.le_of_ble_eq_true rfl) (by omega) (by omega) dL_law_924 ?_
  refine z_iload 1 hc dL_law_927 rfl ?_
  obtain ⟨⟨hz9, he9⟩, h⟩ := z_g_some h
  refine z_icmp_eq (X := some ()) (Y := none) (o := ()) (tgt := 934) hc dL_law_929 (by decide) (by rw [z_g_pos hz9, if_pos he9]) (fun _ _ => ?_) (fun _ h9 => nomatch h9)
  refine z_iload 1 hc dL_law_934 rfl ?_
  obtain ⟨hv9, h⟩ := z_g_some h
  have h := Option.some.inj h
  subst h
  refine z_if_ne (X := some ()) (Y := some ()) (o := ()) (tgt := 951) hc dL_law_936 (by decide) (by rw [z_g_pos hz9.2]; split <;> rfl) (fun e9 _ => ?_) (fun _ _ => ?_)
  · refine z_aload_n (i := 3) 5 hc dL_law_939 rfl rfl ?_
    refine z_iconst hc dL_law_940 ?_
    refine z_lald (kI := 199) (nI9 := 1) (X := some ()) (o := ()) hc tT_199 (by decide) rfl rfl (by decide) dL_law_941 (z_g_pos (by decide)) (fun _ _ => ?_)
    refine z_iload 0 hc dL_law_942 rfl ?_
    refine z_i2lc hc dL_law_944 (hv9 e9).1 ?_
    refine z_lcmp_eq (X := some ()) (Y := none) (o := ()) (tgt := 951) hc dL_law_945 dL_law_946 (by decide) (by rw [z_g_pos ⟨(hv9 e9).2.1, (hv9 e9).2.2.1⟩, if_pos (hv9 e9).2.2.2]) (fun _ _ => ?_) (fun _ h9 => nomatch h9)
    refine z_goto (tgt := 2158) hc dL_law_951 (by decide) ?_
    refine z_sub [(0, .ref b), (1, .ref (a 0)), (2, .ref (a 168)), (3, .ref (a 199)), (4, .int (zI i))] [2, 3, 4, 5, 6] rfl ?_
    exact kk
  · refine z_goto (tgt := 2158) hc dL_law_951 (by decide) ?_
    refine z_sub [(0, .ref b), (1, .ref (a 0)), (2, .ref (a 168)), (3, .ref (a 199)), (4, .int (zI i))] [2, 3, 4, 5, 6] rfl ?_
    exact kk
def JL_12 (f : Int → Int) (i : Int) (st : z_St) : Option z_St :=
  z_b (J_L_cost (f (i + 1)) (f (i + 2)) (f (i + 3)) st) fun r =>
  z_b (J_X12_cost (f (i + 1)) (f (i + 2)) (f (i + 3)) r.2) fun q =>
  z_b (J_X12_thrown q.2) fun t =>
  z_g ((z32 t ∧ z32 r.1) ∧ t = r.1) <|
  z_g (r.1 = 0 → z64 q.1 ∧ z64 (q.2 199 0) ∧ z64 q.1 ∧ q.2 199 0 = q.1) <|
  some q.2
set_option maxRecDepth 100000 in
set_option maxHeartbeats 4000000 in
theorem wl_12 {κ : zK} {a : Nat → Nat} {f : Int → Int} {i : Int} {n b cells slots lam mc ms : Nat} {st o : z_St} (hc : z_C κ RL cL_law 8 lam mc ms) (hl9 : 30 ≤ lam) (hap : z_AP κ a z_N) (hX : z_SX κ b n f) (hi : 0 ≤ i ∧ i + 5 ≤ n) (h1 : cells + 1 ≤ mc) (h2 : slots + 6 ≤ ms) (h : JL_12 f i st = some o) (kk : z_V κ z_T z_N a (cells + 1) (slots + 6) 2158 [(0, .ref b), (1, .ref (a 0)), (2, .ref (a 168)), (3, .ref (a 199)), (4, .int (zI i))] [] o) : z_V κ z_T z_N a cells slots 954 [(0, .ref b), (1, .ref (a 0)), (2, .ref (a 168)), (3, .ref (a 199)), (4, .int (zI i))] [] st := by
  have hn9 := z_SXn hX
  refine z_aload_n (i := 1) 1 hc dL_law_954 rfl rfl ?_
  refine z_aload_n (i := 0) 0 hc dL_law_955 rfl rfl ?_
  refine z_iload 4 hc dL_law_956 rfl ?_
  refine z_iconst hc dL_law_958 ?_
  refine z_iadd hc dL_law_959 ?_
  refine z_sld hX hc dL_law_960 (by omega) ?_
  refine z_aload_n (i := 0) 0 hc dL_law_961 rfl rfl ?_
  refine z_iload 4 hc dL_law_962 rfl ?_
  refine z_iconst hc dL_law_964 ?_
  refine z_iadd hc dL_law_965 ?_
  refine z_sld hX hc dL_law_966 (by omega) ?_
  refine z_aload_n (i := 0) 0 hc dL_law_967 rfl rfl ?_
  refine z_iload 4 hc dL_law_968 rfl ?_
  refine z_iconst hc dL_law_970 ?_
  refine z_iadd hc dL_law_971 ?_
  refine z_sld hX hc dL_law_972 (by omega) ?_
  refine z_aload_n (i := 3) 3 hc dL_law_973 rfl rfl ?_
  unfold JL_12 at h
  obtain ⟨r, hr, h⟩ := z_b_some h
  refine z_callW (np := 5) [.ref (a 0), .int (zI (f (i + 1))), .int (zI (f (i + 2))), .int (zI (f (i + 3))), .ref (a 199)] hc hap kL_cost ml_RL_164 (z_t4 59 rfl rfl) (z_t1 0 rfl rfl) (by decide +kernel) (by decide) (fun l hl => c_L_cost hl hr) (by omega) rfl rfl (Nat.le_of_ble_eq_true rfl) h1 h2 dL_law_974 ?_
  refine z_istore [(5, .int (zI r.1)), (0, .ref b), (1, .ref (a 0)), (2, .ref (a 168)), (3, .ref (a 199)), (4, .int (zI i))] hc dL_law_977 (by decide) rfl ?_
  refine z_aload_n (i := 2) 3 hc dL_law_979 rfl rfl ?_
  refine z_aload_n (i := 0) 1 hc dL_law_980 rfl rfl ?_
  refine z_iload 5 hc dL_law_981 rfl ?_
  refine z_iconst hc dL_law_983 ?_
  refine z_iadd hc dL_law_984 ?_
  refine z_sld hX hc dL_law_985 (by omega) ?_
  refine z_aload_n (i := 0) 1 hc dL_law_986 rfl rfl ?_
  refine z_iload 5 hc dL_law_987 rfl ?_
  refine z_iconst hc dL_law_989 ?_
  refine z_iadd hc dL_law_990 ?_
  refine z_sld hX hc dL_law_991 (by omega) ?_
  refine z_aload_n (i := 0) 1 hc dL_law_992 rfl rfl ?_
  refine z_iload 5 hc dL_law_993 rfl ?_
  refine z_iconst hc dL_law_995 ?_
  refine z_iadd hc dL_law_996 ?_
  refine z_sld hX hc dL_law_997 (by omega) ?_
  obtain ⟨q, hq, h⟩ := z_b_some h
  refine z_callVJ [.int (zI (f (i + 1))), .int (zI (f (i + 2))), .int (zI (f (i + 3)))] hc hap o_X12_cost ml_RL_166 (fun l hl => c_X12_cost hl hq) (by omega) tT_168 (by decide) ⟨_, rfl, rfl⟩ rfl rfl (Nat.le_of_ble_eq_true rfl) (by omega) (by omega) dL_law_998 ?_
  refine z_lstore [(6, .long (zJ q.1)), (5, .int (zI r.1)), (0, .ref b), (1, .ref (a 0)), (2, .ref (a 168)), (3, .ref (a 199)), (4, .int (zI i))] hc dL_law_1001 (by decide) rfl ?_
  refine z_aload_n (i := 2) 4 hc dL_law_1003 rfl rfl ?_
  obtain ⟨t, ht, h⟩ := z_b_some h
  refine z_callVI [] hc hap o_X12_thrown ml_RL_121 (fun l hl => c_X12_thrown hl ht) (by omega) tT_168 (by decide) ⟨_, rfl, rfl⟩ rfl rfl (Nat.le_of_ble_eq_true rfl) (by omega) (by omega) dL_law_1004 ?_
  refine z_iload 1 hc dL_law_1007 rfl ?_
  obtain ⟨⟨hz9, he9⟩, h⟩ := z_g_some h
  refine z_icmp_eq (X := some ()) (Y := none) (o := ()) (tgt := 1014) hc dL_law_1009 (by decide) (by rw [z_g_pos hz9, if_pos he9]) (fun _ _ => ?_) (fun _ h9 => nomatch h9)
  refine z_iload 1 hc dL_law_1014 rfl ?_
  obtain ⟨hv9, h⟩ := z_g_some h
  have h := Option.some.inj h
  subst h
  refine z_if_ne (X := some ()) (Y := some ()) (o := ()) (tgt := 1030) hc dL_law_1016 (by decide) (by rw [z_g_pos hz9.2]; split <;> rfl) (fun e9 _ => ?_) (fun _ _ => ?_)
  · refine z_aload_n (i := 3) 5 hc dL_law_1019 rfl rfl ?_
    refine z_iconst hc dL_law_1020 ?_
    refine z_lald (kI := 199) (nI9 := 1) (X := some ()) (o := ()) hc tT_199 (by decide) rfl rfl (by decide) dL_law_1021 (z_g_pos (by decide)) (fun _ _ => ?_)
    refine z_lload 0 hc dL_law_1022 rfl ?_
    refine z_lcmp_eq (X := some ()) (Y := none) (o := ()) (tgt := 1030) hc dL_law_1024 dL_law_1025 (by decide) (by rw [z_g_pos ⟨(hv9 e9).2.1, (hv9 e9).2.2.1⟩, if_pos (hv9 e9).2.2.2]) (fun _ _ => ?_) (fun _ h9 => nomatch h9)
    refine z_goto (tgt := 2158) hc dL_law_1030 (by decide) ?_
    refine z_sub [(0, .ref b), (1, .ref (a 0)), (2, .ref (a 168)), (3, .ref (a 199)), (4, .int (zI i))] [2, 3, 4, 5, 6] rfl ?_
    exact kk
  · refine z_goto (tgt := 2158) hc dL_law_1030 (by decide) ?_
    refine z_sub [(0, .ref b), (1, .ref (a 0)), (2, .ref (a 168)), (3, .ref (a 199)), (4, .int (zI i))] [2, 3, 4, 5, 6] rfl ?_
    exact kk
def JL_13 (f : Int → Int) (i : Int) (st : z_St) : Option z_St :=
  z_b (J_L_over (f (i + 1)) (f (i + 2)) (f (i + 3)) st) fun r =>
  z_b (J_X12_over (f (i + 1)) (f (i + 2)) (f (i + 3)) r.2) fun q =>
  z_b (J_X12_thrown q.2) fun t =>
  z_g ((z32 t ∧ z32 r.1) ∧ t = r.1) <|
  z_g (r.1 = 0 → z64 q.1 ∧ z64 (q.2 199 0) ∧ z64 q.1 ∧ q.2 199 0 = q.1) <|
  some q.2
set_option maxRecDepth 100000 in
set_option maxHeartbeats 4000000 in
theorem wl_13 {κ : zK} {a : Nat → Nat} {f : Int → Int} {i : Int} {n b cells slots lam mc ms : Nat} {st o : z_St} (hc : z_C κ RL cL_law 8 lam mc ms) (hl9 : 30 ≤ lam) (hap : z_AP κ a z_N) (hX : z_SX κ b n f) (hi : 0 ≤ i ∧ i + 5 ≤ n) (h1 : cells + 1 ≤ mc) (h2 : slots + 6 ≤ ms) (h : JL_13 f i st = some o) (kk : z_V κ z_T z_N a (cells + 1) (slots + 6) 2158 [(0, .ref b), (1, .ref (a 0)), (2, .ref (a 168)), (3, .ref (a 199)), (4, .int (zI i))] [] o) : z_V κ z_T z_N a cells slots 1033 [(0, .ref b), (1, .ref (a 0)), (2, .ref (a 168)), (3, .ref (a 199)), (4, .int (zI i))] [] st := by
  have hn9 := z_SXn hX
  refine z_aload_n (i := 1) 1 hc dL_law_1033 rfl rfl ?_
  refine z_aload_n (i := 0) 0 hc dL_law_1034 rfl rfl ?_
  refine z_iload 4 hc dL_law_1035 rfl ?_
  refine z_iconst hc dL_law_1037 ?_
  refine z_iadd hc dL_law_1038 ?_
  refine z_sld hX hc dL_law_1039 (by omega) ?_
  refine z_aload_n (i := 0) 0 hc dL_law_1040 rfl rfl ?_
  refine z_iload 4 hc dL_law_1041 rfl ?_
  refine z_iconst hc dL_law_1043 ?_
  refine z_iadd hc dL_law_1044 ?_
  refine z_sld hX hc dL_law_1045 (by omega) ?_
  refine z_aload_n (i := 0) 0 hc dL_law_1046 rfl rfl ?_
  refine z_iload 4 hc dL_law_1047 rfl ?_
  refine z_iconst hc dL_law_1049 ?_
  refine z_iadd hc dL_law_1050 ?_
  refine z_sld hX hc dL_law_1051 (by omega) ?_
  refine z_aload_n (i := 3) 3 hc dL_law_1052 rfl rfl ?_
  unfold JL_13 at h
  obtain ⟨r, hr, h⟩ := z_b_some h
  refine z_callW (np := 5) [.ref (a 0), .int (zI (f (i + 1))), .int (zI (f (i + 2))), .int (zI (f (i + 3))), .ref (a 199)] hc hap kL_over ml_RL_167 (z_t4 67 rfl rfl) (z_t1 0 rfl rfl) (by decide +kernel) (by decide) (fun l hl => c_L_over hl hr) (by omega) rfl rfl (Nat.le_of_ble_eq_true rfl) h1 h2 dL_law_1053 ?_
  refine z_istore [(5, .int (zI r.1)), (0, .ref b), (1, .ref (a 0)), (2, .ref (a 168)), (3, .ref (a 199)), (4, .int (zI i))] hc dL_law_1056 (by decide) rfl ?_
  refine z_aload_n (i := 2) 3 hc dL_law_1058 rfl rfl ?_
  refine z_aload_n (i := 0) 1 hc dL_law_1059 rfl rfl ?_
  refine z_iload 5 hc dL_law_1060 rfl ?_
  refine z_iconst hc dL_law_1062 ?_
  refine z_iadd hc dL_law_1063 ?_
  refine z_sld hX hc dL_law_1064 (by omega) ?_
  refine z_aload_n (i := 0) 1 hc dL_law_1065 rfl rfl ?_
  refine z_iload 5 hc dL_law_1066 rfl ?_
  refine z_iconst hc dL_law_1068 ?_
  refine z_iadd hc dL_law_1069 ?_
  refine z_sld hX hc dL_law_1070 (by omega) ?_
  refine z_aload_n (i := 0) 1 hc dL_law_1071 rfl rfl ?_
  refine z_iload 5 hc dL_law_1072 rfl ?_
  refine z_iconst hc dL_law_1074 ?_
  refine z_iadd hc dL_law_1075 ?_
  refine z_sld hX hc dL_law_1076 (by omega) ?_
  obtain ⟨q, hq, h⟩ := z_b_some h
  refine z_callVJ [.int (zI (f (i + 1))), .int (zI (f (i + 2))), .int (zI (f (i + 3)))] hc hap o_X12_over ml_RL_169 (fun l hl => c_X12_over hl hq) (by omega) tT_168 (by decide) ⟨_, rfl, rfl⟩ rfl rfl (Nat.le_of_ble_eq_true rfl) (by omega) (by omega) dL_law_1077 ?_
  refine z_lstore [(6, .long (zJ q.1)), (5, .int (zI r.1)), (0, .ref b), (1, .ref (a 0)), (2, .ref (a 168)), (3, .ref (a 199)), (4, .int (zI i))] hc dL_law_1080 (by decide) rfl ?_
  refine z_aload_n (i := 2) 4 hc dL_law_1082 rfl rfl ?_
  obtain ⟨t, ht, h⟩ := z_b_some h
  refine z_callVI [] hc hap o_X12_thrown ml_RL_121 (fun l hl => c_X12_thrown hl ht) (by omega) tT_168 (by decide) ⟨_, rfl, rfl⟩ rfl rfl (Nat.le_of_ble_eq_true rfl) (by omega) (by omega) dL_law_1083 ?_
  refine z_iload 1 hc dL_law_1086 rfl ?_
  obtain ⟨⟨hz9, he9⟩, h⟩ := z_g_some h
  refine z_icmp_eq (X := some ()) (Y := none) (o := ()) (tgt := 1093) hc dL_law_1088 (by decide) (by rw [z_g_pos hz9, if_pos he9]) (fun _ _ => ?_) (fun _ h9 => nomatch h9)
  refine z_iload 1 hc dL_law_1093 rfl ?_
  obtain ⟨hv9, h⟩ := z_g_some h
  have h := Option.some.inj h
  subst h
  refine z_if_ne (X := some ()) (Y := some ()) (o := ()) (tgt := 1109) hc dL_law_1095 (by decide) (by rw [z_g_pos hz9.2]; split <;> rfl) (fun e9 _ => ?_) (fun _ _ => ?_)
  · refine z_aload_n (i := 3) 5 hc dL_law_1098 rfl rfl ?_
    refine z_iconst hc dL_law_1099 ?_
    refine z_lald (kI := 199) (nI9 := 1) (X := some ()) (o := ()) hc tT_199 (by decide) rfl rfl (by decide) dL_law_1100 (z_g_pos (by decide)) (fun _ _ => ?_)
    refine z_lload 0 hc dL_law_1101 rfl ?_
    refine z_lcmp_eq (X := some ()) (Y := none) (o := ()) (tgt := 1109) hc dL_law_1103 dL_law_1104 (by decide) (by rw [z_g_pos ⟨(hv9 e9).2.1, (hv9 e9).2.2.1⟩, if_pos (hv9 e9).2.2.2]) (fun _ _ => ?_) (fun _ h9 => nomatch h9)
    refine z_goto (tgt := 2158) hc dL_law_1109 (by decide) ?_
    refine z_sub [(0, .ref b), (1, .ref (a 0)), (2, .ref (a 168)), (3, .ref (a 199)), (4, .int (zI i))] [2, 3, 4, 5, 6] rfl ?_
    exact kk
  · refine z_goto (tgt := 2158) hc dL_law_1109 (by decide) ?_
    refine z_sub [(0, .ref b), (1, .ref (a 0)), (2, .ref (a 168)), (3, .ref (a 199)), (4, .int (zI i))] [2, 3, 4, 5, 6] rfl ?_
    exact kk
def JL_14 (f : Int → Int) (i : Int) (st : z_St) : Option z_St :=
  z_b (J_L_learn (f (i + 1)) st) fun r =>
  z_b (J_X12_learn (f (i + 1)) r.2) fun q =>
  z_b (J_X12_thrown q.2) fun t =>
  z_g ((z32 t ∧ z32 r.1) ∧ t = r.1) <|
  z_g (r.1 = 0 → z32 q.1 ∧ z64 (q.2 199 0) ∧ z64 q.1 ∧ q.2 199 0 = q.1) <|
  some q.2
set_option maxRecDepth 100000 in
set_option maxHeartbeats 4000000 in
theorem wl_14 {κ : zK} {a : Nat → Nat} {f : Int → Int} {i : Int} {n b cells slots lam mc ms : Nat} {st o : z_St} (hc : z_C κ RL cL_law 8 lam mc ms) (hl9 : 30 ≤ lam) (hap : z_AP κ a z_N) (hX : z_SX κ b n f) (hi : 0 ≤ i ∧ i + 5 ≤ n) (h1 : cells + 1 ≤ mc) (h2 : slots + 6 ≤ ms) (h : JL_14 f i st = some o) (kk : z_V κ z_T z_N a (cells + 1) (slots + 6) 2158 [(0, .ref b), (1, .ref (a 0)), (2, .ref (a 168)), (3, .ref (a 199)), (4, .int (zI i))] [] o) : z_V κ z_T z_N a cells slots 1112 [(0, .ref b), (1, .ref (a 0)), (2, .ref (a 168)), (3, .ref (a 199)), (4, .int (zI i))] [] st := by
  have hn9 := z_SXn hX
  refine z_aload_n (i := 1) 1 hc dL_law_1112 rfl rfl ?_
  refine z_aload_n (i := 0) 0 hc dL_law_1113 rfl rfl ?_
  refine z_iload 4 hc dL_law_1114 rfl ?_
  refine z_iconst hc dL_law_1116 ?_
  refine z_iadd hc dL_law_1117 ?_
  refine z_sld hX hc dL_law_1118 (by omega) ?_
  refine z_aload_n (i := 3) 3 hc dL_law_1119 rfl rfl ?_
  unfold JL_14 at h
  obtain ⟨r, hr, h⟩ := z_b_some h
  refine z_callW (np := 3) [.ref (a 0), .int (zI (f (i + 1))), .ref (a 199)] hc hap kL_learn ml_RL_170 (z_t4 84 rfl rfl) (z_t1 0 rfl rfl) (by decide +kernel) (by decide) (fun l hl => c_L_learn hl hr) (by omega) rfl rfl (Nat.le_of_ble_eq_true rfl) h1 h2 dL_law_1120 ?_
  refine z_istore [(5, .int (zI r.1)), (0, .ref b), (1, .ref (a 0)), (2, .ref (a 168)), (3, .ref (a 199)), (4, .int (zI i))] hc dL_law_1123 (by decide) rfl ?_
  refine z_aload_n (i := 2) 3 hc dL_law_1125 rfl rfl ?_
  refine z_aload_n (i := 0) 1 hc dL_law_1126 rfl rfl ?_
  refine z_iload 5 hc dL_law_1127 rfl ?_
  refine z_iconst hc dL_law_1129 ?_
  refine z_iadd hc dL_law_1130 ?_
  refine z_sld hX hc dL_law_1131 (by omega) ?_
  obtain ⟨q, hq, h⟩ := z_b_some h
  refine z_callVI [.int (zI (f (i + 1)))] hc hap o_X12_learn ml_RL_172 (fun l hl => c_X12_learn hl hq) (by omega) tT_168 (by decide) ⟨_, rfl, rfl⟩ rfl rfl (Nat.le_of_ble_eq_true rfl) (by omega) (by omega) dL_law_1132 ?_
  refine z_istore [(6, .int (zI q.1)), (5, .int (zI r.1)), (0, .ref b), (1, .ref (a 0)), (2, .ref (a 168)), (3, .ref (a 199)), (4, .int (zI i))] hc dL_law_1135 (by decide) rfl ?_
  refine z_aload_n (i := 2) 4 hc dL_law_1137 rfl rfl ?_
  obtain ⟨t, ht, h⟩ := z_b_some h
  refine z_callVI [] hc hap o_X12_thrown ml_RL_121 (fun l hl => c_X12_thrown hl ht) (by omega) tT_168 (by decide) ⟨_, rfl, rfl⟩ rfl rfl (Nat.le_of_ble_eq_true rfl) (by omega) (by omega) dL_law_1138 ?_
  refine z_iload 1 hc dL_law_1141 rfl ?_
  obtain ⟨⟨hz9, he9⟩, h⟩ := z_g_some h
  refine z_icmp_eq (X := some ()) (Y := none) (o := ()) (tgt := 1148) hc dL_law_1143 (by decide) (by rw [z_g_pos hz9, if_pos he9]) (fun _ _ => ?_) (fun _ h9 => nomatch h9)
  refine z_iload 1 hc dL_law_1148 rfl ?_
  obtain ⟨hv9, h⟩ := z_g_some h
  have h := Option.some.inj h
  subst h
  refine z_if_ne (X := some ()) (Y := some ()) (o := ()) (tgt := 1165) hc dL_law_1150 (by decide) (by rw [z_g_pos hz9.2]; split <;> rfl) (fun e9 _ => ?_) (fun _ _ => ?_)
  · refine z_aload_n (i := 3) 5 hc dL_law_1153 rfl rfl ?_
    refine z_iconst hc dL_law_1154 ?_
    refine z_lald (kI := 199) (nI9 := 1) (X := some ()) (o := ()) hc tT_199 (by decide) rfl rfl (by decide) dL_law_1155 (z_g_pos (by decide)) (fun _ _ => ?_)
    refine z_iload 0 hc dL_law_1156 rfl ?_
    refine z_i2lc hc dL_law_1158 (hv9 e9).1 ?_
    refine z_lcmp_eq (X := some ()) (Y := none) (o := ()) (tgt := 1165) hc dL_law_1159 dL_law_1160 (by decide) (by rw [z_g_pos ⟨(hv9 e9).2.1, (hv9 e9).2.2.1⟩, if_pos (hv9 e9).2.2.2]) (fun _ _ => ?_) (fun _ h9 => nomatch h9)
    refine z_goto (tgt := 2158) hc dL_law_1165 (by decide) ?_
    refine z_sub [(0, .ref b), (1, .ref (a 0)), (2, .ref (a 168)), (3, .ref (a 199)), (4, .int (zI i))] [2, 3, 4, 5, 6] rfl ?_
    exact kk
  · refine z_goto (tgt := 2158) hc dL_law_1165 (by decide) ?_
    refine z_sub [(0, .ref b), (1, .ref (a 0)), (2, .ref (a 168)), (3, .ref (a 199)), (4, .int (zI i))] [2, 3, 4, 5, 6] rfl ?_
    exact kk
def JL_15 (f : Int → Int) (i : Int) (st : z_St) : Option z_St :=
  z_b (J_L_back (f (i + 1)) st) fun r =>
  z_b (J_X12_back (f (i + 1)) r.2) fun q =>
  z_b (J_X12_thrown q.2) fun t =>
  z_g ((z32 t ∧ z32 r.1) ∧ t = r.1) <|
  z_g (r.1 = 0 → z32 q.1 ∧ z64 (q.2 199 0) ∧ z64 q.1 ∧ q.2 199 0 = q.1) <|
  some q.2
set_option maxRecDepth 100000 in
set_option maxHeartbeats 4000000 in
theorem wl_15 {κ : zK} {a : Nat → Nat} {f : Int → Int} {i : Int} {n b cells slots lam mc ms : Nat} {st o : z_St} (hc : z_C κ RL cL_law 8 lam mc ms) (hl9 : 30 ≤ lam) (hap : z_AP κ a z_N) (hX : z_SX κ b n f) (hi : 0 ≤ i ∧ i + 5 ≤ n) (h1 : cells + 1 ≤ mc) (h2 : slots + 6 ≤ ms) (h : JL_15 f i st = some o) (kk : z_V κ z_T z_N a (cells + 1) (slots + 6) 2158 [(0, .ref b), (1, .ref (a 0)), (2, .ref (a 168)), (3, .ref (a 199)), (4, .int (zI i))] [] o) : z_V κ z_T z_N a cells slots 1168 [(0, .ref b), (1, .ref (a 0)), (2, .ref (a 168)), (3, .ref (a 199)), (4, .int (zI i))] [] st := by
  have hn9 := z_SXn hX
  refine z_aload_n (i := 1) 1 hc dL_law_1168 rfl rfl ?_
  refine z_aload_n (i := 0) 0 hc dL_law_1169 rfl rfl ?_
  refine z_iload 4 hc dL_law_1170 rfl ?_
  refine z_iconst hc dL_law_1172 ?_
  refine z_iadd hc dL_law_1173 ?_
  refine z_sld hX hc dL_law_1174 (by omega) ?_
  refine z_aload_n (i := 3) 3 hc dL_law_1175 rfl rfl ?_
  unfold JL_15 at h
  obtain ⟨r, hr, h⟩ := z_b_some h
  refine z_callW (np := 3) [.ref (a 0), .int (zI (f (i + 1))), .ref (a 199)] hc hap kL_back ml_RL_173 (z_t4 100 rfl rfl) (z_t1 0 rfl rfl) (by decide +kernel) (by decide) (fun l hl => c_L_back hl hr) (by omega) rfl rfl (Nat.le_of_ble_eq_true rfl) h1 h2 dL_law_1176 ?_
  refine z_istore [(5, .int (zI r.1)), (0, .ref b), (1, .ref (a 0)), (2, .ref (a 168)), (3, .ref (a 199)), (4, .int (zI i))] hc dL_law_1179 (by decide) rfl ?_
  refine z_aload_n (i := 2) 3 hc dL_law_1181 rfl rfl ?_
  refine z_aload_n (i := 0) 1 hc dL_law_1182 rfl rfl ?_
  refine z_iload 5 hc dL_law_1183 rfl ?_
  refine z_iconst hc dL_law_1185 ?_
  refine z_iadd hc dL_law_1186 ?_
  refine z_sld hX hc dL_law_1187 (by omega) ?_
  obtain ⟨q, hq, h⟩ := z_b_some h
  refine z_callVI [.int (zI (f (i + 1)))] hc hap o_X12_back ml_RL_175 (fun l hl => c_X12_back hl hq) (by omega) tT_168 (by decide) ⟨_, rfl, rfl⟩ rfl rfl (Nat.le_of_ble_eq_true rfl) (by omega) (by omega) dL_law_1188 ?_
  refine z_istore [(6, .int (zI q.1)), (5, .int (zI r.1)), (0, .ref b), (1, .ref (a 0)), (2, .ref (a 168)), (3, .ref (a 199)), (4, .int (zI i))] hc dL_law_1191 (by decide) rfl ?_
  refine z_aload_n (i := 2) 4 hc dL_law_1193 rfl rfl ?_
  obtain ⟨t, ht, h⟩ := z_b_some h
  refine z_callVI [] hc hap o_X12_thrown ml_RL_121 (fun l hl => c_X12_thrown hl ht) (by omega) tT_168 (by decide) ⟨_, rfl, rfl⟩ rfl rfl (Nat.le_of_ble_eq_true rfl) (by omega) (by omega) dL_law_1194 ?_
  refine z_iload 1 hc dL_law_1197 rfl ?_
  obtain ⟨⟨hz9, he9⟩, h⟩ := z_g_some h
  refine z_icmp_eq (X := some ()) (Y := none) (o := ()) (tgt := 1204) hc dL_law_1199 (by decide) (by rw [z_g_pos hz9, if_pos he9]) (fun _ _ => ?_) (fun _ h9 => nomatch h9)
  refine z_iload 1 hc dL_law_1204 rfl ?_
  obtain ⟨hv9, h⟩ := z_g_some h
  have h := Option.some.inj h
  subst h
  refine z_if_ne (X := some ()) (Y := some ()) (o := ()) (tgt := 1221) hc dL_law_1206 (by decide) (by rw [z_g_pos hz9.2]; split <;> rfl) (fun e9 _ => ?_) (fun _ _ => ?_)
  · refine z_aload_n (i := 3) 5 hc dL_law_1209 rfl rfl ?_
    refine z_iconst hc dL_law_1210 ?_
    refine z_lald (kI := 199) (nI9 := 1) (X := some ()) (o := ()) hc tT_199 (by decide) rfl rfl (by decide) dL_law_1211 (z_g_pos (by decide)) (fun _ _ => ?_)
    refine z_iload 0 hc dL_law_1212 rfl ?_
    refine z_i2lc hc dL_law_1214 (hv9 e9).1 ?_
    refine z_lcmp_eq (X := some ()) (Y := none) (o := ()) (tgt := 1221) hc dL_law_1215 dL_law_1216 (by decide) (by rw [z_g_pos ⟨(hv9 e9).2.1, (hv9 e9).2.2.1⟩, if_pos (hv9 e9).2.2.2]) (fun _ _ => ?_) (fun _ h9 => nomatch h9)
    refine z_goto (tgt := 2158) hc dL_law_1221 (by decide) ?_
    refine z_sub [(0, .ref b), (1, .ref (a 0)), (2, .ref (a 168)), (3, .ref (a 199)), (4, .int (zI i))] [2, 3, 4, 5, 6] rfl ?_
    exact kk
  · refine z_goto (tgt := 2158) hc dL_law_1221 (by decide) ?_
    refine z_sub [(0, .ref b), (1, .ref (a 0)), (2, .ref (a 168)), (3, .ref (a 199)), (4, .int (zI i))] [2, 3, 4, 5, 6] rfl ?_
    exact kk
def JL_16 (f : Int → Int) (i : Int) (st : z_St) : Option z_St :=
  z_b (J_L_factor (f (i + 1)) st) fun r =>
  z_b (J_X12_factor (f (i + 1)) r.2) fun q =>
  z_b (J_X12_thrown q.2) fun t =>
  z_g ((z32 t ∧ z32 r.1) ∧ t = r.1) <|
  z_g (r.1 = 0 → z32 q.1 ∧ z64 (q.2 199 0) ∧ z64 q.1 ∧ q.2 199 0 = q.1) <|
  some q.2
set_option maxRecDepth 100000 in
set_option maxHeartbeats 4000000 in
theorem wl_16 {κ : zK} {a : Nat → Nat} {f : Int → Int} {i : Int} {n b cells slots lam mc ms : Nat} {st o : z_St} (hc : z_C κ RL cL_law 8 lam mc ms) (hl9 : 30 ≤ lam) (hap : z_AP κ a z_N) (hX : z_SX κ b n f) (hi : 0 ≤ i ∧ i + 5 ≤ n) (h1 : cells + 1 ≤ mc) (h2 : slots + 6 ≤ ms) (h : JL_16 f i st = some o) (kk : z_V κ z_T z_N a (cells + 1) (slots + 6) 2158 [(0, .ref b), (1, .ref (a 0)), (2, .ref (a 168)), (3, .ref (a 199)), (4, .int (zI i))] [] o) : z_V κ z_T z_N a cells slots 1224 [(0, .ref b), (1, .ref (a 0)), (2, .ref (a 168)), (3, .ref (a 199)), (4, .int (zI i))] [] st := by
  have hn9 := z_SXn hX
  refine z_aload_n (i := 1) 1 hc dL_law_1224 rfl rfl ?_
  refine z_aload_n (i := 0) 0 hc dL_law_1225 rfl rfl ?_
  refine z_iload 4 hc dL_law_1226 rfl ?_
  refine z_iconst hc dL_law_1228 ?_
  refine z_iadd hc dL_law_1229 ?_
  refine z_sld hX hc dL_law_1230 (by omega) ?_
  refine z_aload_n (i := 3) 3 hc dL_law_1231 rfl rfl ?_
  unfold JL_16 at h
  obtain ⟨r, hr, h⟩ := z_b_some h
  refine z_callW (np := 3) [.ref (a 0), .int (zI (f (i + 1))), .ref (a 199)] hc hap kL_factor ml_RL_176 (z_t4 108 rfl rfl) (z_t1 0 rfl rfl) (by decide +kernel) (by decide) (fun l hl => c_L_factor hl hr) (by omega) rfl rfl (Nat.le_of_ble_eq_true rfl) h1 h2 dL_law_1232 ?_
  refine z_istore [(5, .int (zI r.1)), (0, .ref b), (1, .ref (a 0)), (2, .ref (a 168)), (3, .ref (a 199)), (4, .int (zI i))] hc dL_law_1235 (by decide) rfl ?_
  refine z_aload_n (i := 2) 3 hc dL_law_1237 rfl rfl ?_
  refine z_aload_n (i := 0) 1 hc dL_law_1238 rfl rfl ?_
  refine z_iload 5 hc dL_law_1239 rfl ?_
  refine z_iconst hc dL_law_1241 ?_
  refine z_iadd hc dL_law_1242 ?_
  refine z_sld hX hc dL_law_1243 (by omega) ?_
  obtain ⟨q, hq, h⟩ := z_b_some h
  refine z_callVI [.int (zI (f (i + 1)))] hc hap o_X12_factor ml_RL_178 (fun l hl => c_X12_factor hl hq) (by omega) tT_168 (by decide) ⟨_, rfl, rfl⟩ rfl rfl (Nat.le_of_ble_eq_true rfl) (by omega) (by omega) dL_law_1244 ?_
  refine z_istore [(6, .int (zI q.1)), (5, .int (zI r.1)), (0, .ref b), (1, .ref (a 0)), (2, .ref (a 168)), (3, .ref (a 199)), (4, .int (zI i))] hc dL_law_1247 (by decide) rfl ?_
  refine z_aload_n (i := 2) 4 hc dL_law_1249 rfl rfl ?_
  obtain ⟨t, ht, h⟩ := z_b_some h
  refine z_callVI [] hc hap o_X12_thrown ml_RL_121 (fun l hl => c_X12_thrown hl ht) (by omega) tT_168 (by decide) ⟨_, rfl, rfl⟩ rfl rfl (Nat.le_of_ble_eq_true rfl) (by omega) (by omega) dL_law_1250 ?_
  refine z_iload 1 hc dL_law_1253 rfl ?_
  obtain ⟨⟨hz9, he9⟩, h⟩ := z_g_some h
  refine z_icmp_eq (X := some ()) (Y := none) (o := ()) (tgt := 1260) hc dL_law_1255 (by decide) (by rw [z_g_pos hz9, if_pos he9]) (fun _ _ => ?_) (fun _ h9 => nomatch h9)
  refine z_iload 1 hc dL_law_1260 rfl ?_
  obtain ⟨hv9, h⟩ := z_g_some h
  have h := Option.some.inj h
  subst h
  refine z_if_ne (X := some ()) (Y := some ()) (o := ()) (tgt := 1277) hc dL_law_1262 (by decide) (by rw [z_g_pos hz9.2]; split <;> rfl) (fun e9 _ => ?_) (fun _ _ => ?_)
  · refine z_aload_n (i := 3) 5 hc dL_law_1265 rfl rfl ?_
    refine z_iconst hc dL_law_1266 ?_
    refine z_lald (kI := 199) (nI9 := 1) (X := some ()) (o := ()) hc tT_199 (by decide) rfl rfl (by decide) dL_law_1267 (z_g_pos (by decide)) (fun _ _ => ?_)
    refine z_iload 0 hc dL_law_1268 rfl ?_
    refine z_i2lc hc dL_law_1270 (hv9 e9).1 ?_
    refine z_lcmp_eq (X := some ()) (Y := none) (o := ()) (tgt := 1277) hc dL_law_1271 dL_law_1272 (by decide) (by rw [z_g_pos ⟨(hv9 e9).2.1, (hv9 e9).2.2.1⟩, if_pos (hv9 e9).2.2.2]) (fun _ _ => ?_) (fun _ h9 => nomatch h9)
    refine z_goto (tgt := 2158) hc dL_law_1277 (by decide) ?_
    refine z_sub [(0, .ref b), (1, .ref (a 0)), (2, .ref (a 168)), (3, .ref (a 199)), (4, .int (zI i))] [2, 3, 4, 5, 6] rfl ?_
    exact kk
  · refine z_goto (tgt := 2158) hc dL_law_1277 (by decide) ?_
    refine z_sub [(0, .ref b), (1, .ref (a 0)), (2, .ref (a 168)), (3, .ref (a 199)), (4, .int (zI i))] [2, 3, 4, 5, 6] rfl ?_
    exact kk
def JL_17 (f : Int → Int) (i : Int) (st : z_St) : Option z_St :=
  z_b (J_L_price (f (i + 1)) (f (i + 2)) st) fun r =>
  z_b (J_X12_price (f (i + 1)) (f (i + 2)) r.2) fun q =>
  z_b (J_X12_thrown q.2) fun t =>
  z_g ((z32 t ∧ z32 r.1) ∧ t = r.1) <|
  z_g (r.1 = 0 → z64 q.1 ∧ z64 (q.2 199 0) ∧ z64 q.1 ∧ q.2 199 0 = q.1) <|
  some q.2
set_option maxRecDepth 100000 in
set_option maxHeartbeats 4000000 in
theorem wl_17 {κ : zK} {a : Nat → Nat} {f : Int → Int} {i : Int} {n b cells slots lam mc ms : Nat} {st o : z_St} (hc : z_C κ RL cL_law 8 lam mc ms) (hl9 : 30 ≤ lam) (hap : z_AP κ a z_N) (hX : z_SX κ b n f) (hi : 0 ≤ i ∧ i + 5 ≤ n) (h1 : cells + 1 ≤ mc) (h2 : slots + 6 ≤ ms) (h : JL_17 f i st = some o) (kk : z_V κ z_T z_N a (cells + 1) (slots + 6) 2158 [(0, .ref b), (1, .ref (a 0)), (2, .ref (a 168)), (3, .ref (a 199)), (4, .int (zI i))] [] o) : z_V κ z_T z_N a cells slots 1280 [(0, .ref b), (1, .ref (a 0)), (2, .ref (a 168)), (3, .ref (a 199)), (4, .int (zI i))] [] st := by
  have hn9 := z_SXn hX
  refine z_aload_n (i := 1) 1 hc dL_law_1280 rfl rfl ?_
  refine z_aload_n (i := 0) 0 hc dL_law_1281 rfl rfl ?_
  refine z_iload 4 hc dL_law_1282 rfl ?_
  refine z_iconst hc dL_law_1284 ?_
  refine z_iadd hc dL_law_1285 ?_
  refine z_sld hX hc dL_law_1286 (by omega) ?_
  refine z_aload_n (i := 0) 0 hc dL_law_1287 rfl rfl ?_
  refine z_iload 4 hc dL_law_1288 rfl ?_
  refine z_iconst hc dL_law_1290 ?_
  refine z_iadd hc dL_law_1291 ?_
  refine z_sld hX hc dL_law_1292 (by omega) ?_
  refine z_aload_n (i := 3) 3 hc dL_law_1293 rfl rfl ?_
  unfold JL_17 at h
  obtain ⟨r, hr, h⟩ := z_b_some h
  refine z_callW (np := 4) [.ref (a 0), .int (zI (f (i + 1))), .int (zI (f (i + 2))), .ref (a 199)] hc hap kL_price ml_RL_179 (z_t4 115 rfl rfl) (z_t1 0 rfl rfl) (by decide +kernel) (by decide) (fun l hl => c_L_price hl hr) (by omega) rfl rfl (Nat.le_of_ble_eq_true rfl) h1 h2 dL_law_1294 ?_
  refine z_istore [(5, .int (zI r.1)), (0, .ref b), (1, .ref (a 0)), (2, .ref (a 168)), (3, .ref (a 199)), (4, .int (zI i))] hc dL_law_1297 (by decide) rfl ?_
  refine z_aload_n (i := 2) 3 hc dL_law_1299 rfl rfl ?_
  refine z_aload_n (i := 0) 1 hc dL_law_1300 rfl rfl ?_
  refine z_iload 5 hc dL_law_1301 rfl ?_
  refine z_iconst hc dL_law_1303 ?_
  refine z_iadd hc dL_law_1304 ?_
  refine z_sld hX hc dL_law_1305 (by omega) ?_
  refine z_aload_n (i := 0) 1 hc dL_law_1306 rfl rfl ?_
  refine z_iload 5 hc dL_law_1307 rfl ?_
  refine z_iconst hc dL_law_1309 ?_
  refine z_iadd hc dL_law_1310 ?_
  refine z_sld hX hc dL_law_1311 (by omega) ?_
  obtain ⟨q, hq, h⟩ := z_b_some h
  refine z_callVJ [.int (zI (f (i + 1))), .int (zI (f (i + 2)))] hc hap o_X12_price ml_RL_181 (fun l hl => c_X12_price hl hq) (by omega) tT_168 (by decide) ⟨_, rfl, rfl⟩ rfl rfl (Nat.le_of_ble_eq_true rfl) (by omega) (by omega) dL_law_1312 ?_
  refine z_lstore [(6, .long (zJ q.1)), (5, .int (zI r.1)), (0, .ref b), (1, .ref (a 0)), (2, .ref (a 168)), (3, .ref (a 199)), (4, .int (zI i))] hc dL_law_1315 (by decide) rfl ?_
  refine z_aload_n (i := 2) 4 hc dL_law_1317 rfl rfl ?_
  obtain ⟨t, ht, h⟩ := z_b_some h
  refine z_callVI [] hc hap o_X12_thrown ml_RL_121 (fun l hl => c_X12_thrown hl ht) (by omega) tT_168 (by decide) ⟨_, rfl, rfl⟩ rfl rfl (Nat.le_of_ble_eq_true rfl) (by omega) (by omega) dL_law_1318 ?_
  refine z_iload 1 hc dL_law_1321 rfl ?_
  obtain ⟨⟨hz9, he9⟩, h⟩ := z_g_some h
  refine z_icmp_eq (X := some ()) (Y := none) (o := ()) (tgt := 1328) hc dL_law_1323 (by decide) (by rw [z_g_pos hz9, if_pos he9]) (fun _ _ => ?_) (fun _ h9 => nomatch h9)
  refine z_iload 1 hc dL_law_1328 rfl ?_
  obtain ⟨hv9, h⟩ := z_g_some h
  have h := Option.some.inj h
  subst h
  refine z_if_ne (X := some ()) (Y := some ()) (o := ()) (tgt := 1344) hc dL_law_1330 (by decide) (by rw [z_g_pos hz9.2]; split <;> rfl) (fun e9 _ => ?_) (fun _ _ => ?_)
  · refine z_aload_n (i := 3) 5 hc dL_law_1333 rfl rfl ?_
    refine z_iconst hc dL_law_1334 ?_
    refine z_lald (kI := 199) (nI9 := 1) (X := some ()) (o := ()) hc tT_199 (by decide) rfl rfl (by decide) dL_law_1335 (z_g_pos (by decide)) (fun _ _ => ?_)
    refine z_lload 0 hc dL_law_1336 rfl ?_
    refine z_lcmp_eq (X := some ()) (Y := none) (o := ()) (tgt := 1344) hc dL_law_1338 dL_law_1339 (by decide) (by rw [z_g_pos ⟨(hv9 e9).2.1, (hv9 e9).2.2.1⟩, if_pos (hv9 e9).2.2.2]) (fun _ _ => ?_) (fun _ h9 => nomatch h9)
    refine z_goto (tgt := 2158) hc dL_law_1344 (by decide) ?_
    refine z_sub [(0, .ref b), (1, .ref (a 0)), (2, .ref (a 168)), (3, .ref (a 199)), (4, .int (zI i))] [2, 3, 4, 5, 6] rfl ?_
    exact kk
  · refine z_goto (tgt := 2158) hc dL_law_1344 (by decide) ?_
    refine z_sub [(0, .ref b), (1, .ref (a 0)), (2, .ref (a 168)), (3, .ref (a 199)), (4, .int (zI i))] [2, 3, 4, 5, 6] rfl ?_
    exact kk
def JL_18 (f : Int → Int) (i : Int) (st : z_St) : Option z_St :=
  z_b (J_L_weight (f (i + 1)) st) fun r =>
  z_b (J_X12_weight (f (i + 1)) r.2) fun q =>
  z_b (J_X12_thrown q.2) fun t =>
  z_g ((z32 t ∧ z32 r.1) ∧ t = r.1) <|
  z_g (r.1 = 0 → z64 q.1 ∧ z64 (q.2 199 0) ∧ z64 q.1 ∧ q.2 199 0 = q.1) <|
  some q.2
set_option maxRecDepth 100000 in
set_option maxHeartbeats 4000000 in
theorem wl_18 {κ : zK} {a : Nat → Nat} {f : Int → Int} {i : Int} {n b cells slots lam mc ms : Nat} {st o : z_St} (hc : z_C κ RL cL_law 8 lam mc ms) (hl9 : 30 ≤ lam) (hap : z_AP κ a z_N) (hX : z_SX κ b n f) (hi : 0 ≤ i ∧ i + 5 ≤ n) (h1 : cells + 1 ≤ mc) (h2 : slots + 6 ≤ ms) (h : JL_18 f i st = some o) (kk : z_V κ z_T z_N a (cells + 1) (slots + 6) 2158 [(0, .ref b), (1, .ref (a 0)), (2, .ref (a 168)), (3, .ref (a 199)), (4, .int (zI i))] [] o) : z_V κ z_T z_N a cells slots 1347 [(0, .ref b), (1, .ref (a 0)), (2, .ref (a 168)), (3, .ref (a 199)), (4, .int (zI i))] [] st := by
  have hn9 := z_SXn hX
  refine z_aload_n (i := 1) 1 hc dL_law_1347 rfl rfl ?_
  refine z_aload_n (i := 0) 0 hc dL_law_1348 rfl rfl ?_
  refine z_iload 4 hc dL_law_1349 rfl ?_
  refine z_iconst hc dL_law_1351 ?_
  refine z_iadd hc dL_law_1352 ?_
  refine z_sld hX hc dL_law_1353 (by omega) ?_
  refine z_aload_n (i := 3) 3 hc dL_law_1354 rfl rfl ?_
  unfold JL_18 at h
  obtain ⟨r, hr, h⟩ := z_b_some h
  refine z_callW (np := 3) [.ref (a 0), .int (zI (f (i + 1))), .ref (a 199)] hc hap kL_weight ml_RL_182 (z_t4 127 rfl rfl) (z_t1 0 rfl rfl) (by decide +kernel) (by decide) (fun l hl => c_L_weight hl hr) (by omega) rfl rfl (Nat.le_of_ble_eq_true rfl) h1 h2 dL_law_1355 ?_
  refine z_istore [(5, .int (zI r.1)), (0, .ref b), (1, .ref (a 0)), (2, .ref (a 168)), (3, .ref (a 199)), (4, .int (zI i))] hc dL_law_1358 (by decide) rfl ?_
  refine z_aload_n (i := 2) 3 hc dL_law_1360 rfl rfl ?_
  refine z_aload_n (i := 0) 1 hc dL_law_1361 rfl rfl ?_
  refine z_iload 5 hc dL_law_1362 rfl ?_
  refine z_iconst hc dL_law_1364 ?_
  refine z_iadd hc dL_law_1365 ?_
  refine z_sld hX hc dL_law_1366 (by omega) ?_
  obtain ⟨q, hq, h⟩ := z_b_some h
  refine z_callVJ [.int (zI (f (i + 1)))] hc hap o_X12_weight ml_RL_184 (fun l hl => c_X12_weight hl hq) (by omega) tT_168 (by decide) ⟨_, rfl, rfl⟩ rfl rfl (Nat.le_of_ble_eq_true rfl) (by omega) (by omega) dL_law_1367 ?_
  refine z_lstore [(6, .long (zJ q.1)), (5, .int (zI r.1)), (0, .ref b), (1, .ref (a 0)), (2, .ref (a 168)), (3, .ref (a 199)), (4, .int (zI i))] hc dL_law_1370 (by decide) rfl ?_
  refine z_aload_n (i := 2) 4 hc dL_law_1372 rfl rfl ?_
  obtain ⟨t, ht, h⟩ := z_b_some h
  refine z_callVI [] hc hap o_X12_thrown ml_RL_121 (fun l hl => c_X12_thrown hl ht) (by omega) tT_168 (by decide) ⟨_, rfl, rfl⟩ rfl rfl (Nat.le_of_ble_eq_true rfl) (by omega) (by omega) dL_law_1373 ?_
  refine z_iload 1 hc dL_law_1376 rfl ?_
  obtain ⟨⟨hz9, he9⟩, h⟩ := z_g_some h
  refine z_icmp_eq (X := some ()) (Y := none) (o := ()) (tgt := 1383) hc dL_law_1378 (by decide) (by rw [z_g_pos hz9, if_pos he9]) (fun _ _ => ?_) (fun _ h9 => nomatch h9)
  refine z_iload 1 hc dL_law_1383 rfl ?_
  obtain ⟨hv9, h⟩ := z_g_some h
  have h := Option.some.inj h
  subst h
  refine z_if_ne (X := some ()) (Y := some ()) (o := ()) (tgt := 1399) hc dL_law_1385 (by decide) (by rw [z_g_pos hz9.2]; split <;> rfl) (fun e9 _ => ?_) (fun _ _ => ?_)
  · refine z_aload_n (i := 3) 5 hc dL_law_1388 rfl rfl ?_
    refine z_iconst hc dL_law_1389 ?_
    refine z_lald (kI := 199) (nI9 := 1) (X := some ()) (o := ()) hc tT_199 (by decide) rfl rfl (by decide) dL_law_1390 (z_g_pos (by decide)) (fun _ _ => ?_)
    refine z_lload 0 hc dL_law_1391 rfl ?_
    refine z_lcmp_eq (X := some ()) (Y := none) (o := ()) (tgt := 1399) hc dL_law_1393 dL_law_1394 (by decide) (by rw [z_g_pos ⟨(hv9 e9).2.1, (hv9 e9).2.2.1⟩, if_pos (hv9 e9).2.2.2]) (fun _ _ => ?_) (fun _ h9 => nomatch h9)
    refine z_goto (tgt := 2158) hc dL_law_1399 (by decide) ?_
    refine z_sub [(0, .ref b), (1, .ref (a 0)), (2, .ref (a 168)), (3, .ref (a 199)), (4, .int (zI i))] [2, 3, 4, 5, 6] rfl ?_
    exact kk
  · refine z_goto (tgt := 2158) hc dL_law_1399 (by decide) ?_
    refine z_sub [(0, .ref b), (1, .ref (a 0)), (2, .ref (a 168)), (3, .ref (a 199)), (4, .int (zI i))] [2, 3, 4, 5, 6] rfl ?_
    exact kk
def JL_19 (f : Int → Int) (i : Int) (st : z_St) : Option z_St :=
  z_b (J_L_weightAnew (f (i + 1)) st) fun r =>
  z_b (J_X12_weightAnew (f (i + 1)) r.2) fun q =>
  z_b (J_X12_thrown q.2) fun t =>
  z_g ((z32 t ∧ z32 r.1) ∧ t = r.1) <|
  z_g (r.1 = 0 → z64 q.1 ∧ z64 (q.2 199 0) ∧ z64 q.1 ∧ q.2 199 0 = q.1) <|
  some q.2
set_option maxRecDepth 100000 in
set_option maxHeartbeats 4000000 in
theorem wl_19 {κ : zK} {a : Nat → Nat} {f : Int → Int} {i : Int} {n b cells slots lam mc ms : Nat} {st o : z_St} (hc : z_C κ RL cL_law 8 lam mc ms) (hl9 : 30 ≤ lam) (hap : z_AP κ a z_N) (hX : z_SX κ b n f) (hi : 0 ≤ i ∧ i + 5 ≤ n) (h1 : cells + 1 ≤ mc) (h2 : slots + 6 ≤ ms) (h : JL_19 f i st = some o) (kk : z_V κ z_T z_N a (cells + 1) (slots + 6) 2158 [(0, .ref b), (1, .ref (a 0)), (2, .ref (a 168)), (3, .ref (a 199)), (4, .int (zI i))] [] o) : z_V κ z_T z_N a cells slots 1402 [(0, .ref b), (1, .ref (a 0)), (2, .ref (a 168)), (3, .ref (a 199)), (4, .int (zI i))] [] st := by
  have hn9 := z_SXn hX
  refine z_aload_n (i := 1) 1 hc dL_law_1402 rfl rfl ?_
  refine z_aload_n (i := 0) 0 hc dL_law_1403 rfl rfl ?_
  refine z_iload 4 hc dL_law_1404 rfl ?_
  refine z_iconst hc dL_law_1406 ?_
  refine z_iadd hc dL_law_1407 ?_
  refine z_sld hX hc dL_law_1408 (by omega) ?_
  refine z_aload_n (i := 3) 3 hc dL_law_1409 rfl rfl ?_
  unfold JL_19 at h
  obtain ⟨r, hr, h⟩ := z_b_some h
  refine z_callW (np := 3) [.ref (a 0), .int (zI (f (i + 1))), .ref (a 199)] hc hap kL_weightAnew ml_RL_185 (z_t4 138 rfl rfl) (z_t1 0 rfl rfl) (by decide +kernel) (by decide) (fun l hl => c_L_weightAnew hl hr) (by omega) rfl rfl (Nat.le_of_ble_eq_true rfl) h1 h2 dL_law_1410 ?_
  refine z_istore [(5, .int (zI r.1)), (0, .ref b), (1, .ref (a 0)), (2, .ref (a 168)), (3, .ref (a 199)), (4, .int (zI i))] hc dL_law_1413 (by decide) rfl ?_
  refine z_aload_n (i := 2) 3 hc dL_law_1415 rfl rfl ?_
  refine z_aload_n (i := 0) 1 hc dL_law_1416 rfl rfl ?_
  refine z_iload 5 hc dL_law_1417 rfl ?_
  refine z_iconst hc dL_law_1419 ?_
  refine z_iadd hc dL_law_1420 ?_
  refine z_sld hX hc dL_law_1421 (by omega) ?_
  obtain ⟨q, hq, h⟩ := z_b_some h
  refine z_callVJ [.int (zI (f (i + 1)))] hc hap o_X12_weightAnew ml_RL_187 (fun l hl => c_X12_weightAnew hl hq) (by omega) tT_168 (by decide) ⟨_, rfl, rfl⟩ rfl rfl (Nat.le_of_ble_eq_true rfl) (by omega) (by omega) dL_law_1422 ?_
  refine z_lstore [(6, .long (zJ q.1)), (5, .int (zI r.1)), (0, .ref b), (1, .ref (a 0)), (2, .ref (a 168)), (3, .ref (a 199)), (4, .int (zI i))] hc dL_law_1425 (by decide) rfl ?_
  refine z_aload_n (i := 2) 4 hc dL_law_1427 rfl rfl ?_
  obtain ⟨t, ht, h⟩ := z_b_some h
  refine z_callVI [] hc hap o_X12_thrown ml_RL_121 (fun l hl => c_X12_thrown hl ht) (by omega) tT_168 (by decide) ⟨_, rfl, rfl⟩ rfl rfl (Nat.le_of_ble_eq_true rfl) (by omega) (by omega) dL_law_1428 ?_
  refine z_iload 1 hc dL_law_1431 rfl ?_
  obtain ⟨⟨hz9, he9⟩, h⟩ := z_g_some h
  refine z_icmp_eq (X := some ()) (Y := none) (o := ()) (tgt := 1438) hc dL_law_1433 (by decide) (by rw [z_g_pos hz9, if_pos he9]) (fun _ _ => ?_) (fun _ h9 => nomatch h9)
  refine z_iload 1 hc dL_law_1438 rfl ?_
  obtain ⟨hv9, h⟩ := z_g_some h
  have h := Option.some.inj h
  subst h
  refine z_if_ne (X := some ()) (Y := some ()) (o := ()) (tgt := 1454) hc dL_law_1440 (by decide) (by rw [z_g_pos hz9.2]; split <;> rfl) (fun e9 _ => ?_) (fun _ _ => ?_)
  · refine z_aload_n (i := 3) 5 hc dL_law_1443 rfl rfl ?_
    refine z_iconst hc dL_law_1444 ?_
    refine z_lald (kI := 199) (nI9 := 1) (X := some ()) (o := ()) hc tT_199 (by decide) rfl rfl (by decide) dL_law_1445 (z_g_pos (by decide)) (fun _ _ => ?_)
    refine z_lload 0 hc dL_law_1446 rfl ?_
    refine z_lcmp_eq (X := some ()) (Y := none) (o := ()) (tgt := 1454) hc dL_law_1448 dL_law_1449 (by decide) (by rw [z_g_pos ⟨(hv9 e9).2.1, (hv9 e9).2.2.1⟩, if_pos (hv9 e9).2.2.2]) (fun _ _ => ?_) (fun _ h9 => nomatch h9)
    refine z_goto (tgt := 2158) hc dL_law_1454 (by decide) ?_
    refine z_sub [(0, .ref b), (1, .ref (a 0)), (2, .ref (a 168)), (3, .ref (a 199)), (4, .int (zI i))] [2, 3, 4, 5, 6] rfl ?_
    exact kk
  · refine z_goto (tgt := 2158) hc dL_law_1454 (by decide) ?_
    refine z_sub [(0, .ref b), (1, .ref (a 0)), (2, .ref (a 168)), (3, .ref (a 199)), (4, .int (zI i))] [2, 3, 4, 5, 6] rfl ?_
    exact kk
def JL_20 (f : Int → Int) (i : Int) (st : z_St) : Option z_St :=
  z_b (J_L_best (f (i + 1)) st) fun r =>
  z_b (J_X12_best (f (i + 1)) r.2) fun q =>
  z_b (J_X12_thrown q.2) fun t =>
  z_g ((z32 t ∧ z32 r.1) ∧ t = r.1) <|
  z_g (r.1 = 0 → z32 q.1 ∧ z64 (q.2 199 0) ∧ z64 q.1 ∧ q.2 199 0 = q.1) <|
  some q.2
set_option maxRecDepth 100000 in
set_option maxHeartbeats 4000000 in
theorem wl_20 {κ : zK} {a : Nat → Nat} {f : Int → Int} {i : Int} {n b cells slots lam mc ms : Nat} {st o : z_St} (hc : z_C κ RL cL_law 8 lam mc ms) (hl9 : 30 ≤ lam) (hap : z_AP κ a z_N) (hX : z_SX κ b n f) (hi : 0 ≤ i ∧ i + 5 ≤ n) (h1 : cells + 1 ≤ mc) (h2 : slots + 6 ≤ ms) (h : JL_20 f i st = some o) (kk : z_V κ z_T z_N a (cells + 1) (slots + 6) 2158 [(0, .ref b), (1, .ref (a 0)), (2, .ref (a 168)), (3, .ref (a 199)), (4, .int (zI i))] [] o) : z_V κ z_T z_N a cells slots 1457 [(0, .ref b), (1, .ref (a 0)), (2, .ref (a 168)), (3, .ref (a 199)), (4, .int (zI i))] [] st := by
  have hn9 := z_SXn hX
  refine z_aload_n (i := 1) 1 hc dL_law_1457 rfl rfl ?_
  refine z_aload_n (i := 0) 0 hc dL_law_1458 rfl rfl ?_
  refine z_iload 4 hc dL_law_1459 rfl ?_
  refine z_iconst hc dL_law_1461 ?_
  refine z_iadd hc dL_law_1462 ?_
  refine z_sld hX hc dL_law_1463 (by omega) ?_
  refine z_aload_n (i := 3) 3 hc dL_law_1464 rfl rfl ?_
  unfold JL_20 at h
  obtain ⟨r, hr, h⟩ := z_b_some h
  refine z_callW (np := 3) [.ref (a 0), .int (zI (f (i + 1))), .ref (a 199)] hc hap kL_best ml_RL_188 (z_t4 155 rfl rfl) (z_t1 0 rfl rfl) (by decide +kernel) (by decide) (fun l hl => c_L_best hl hr) (by omega) rfl rfl (Nat.le_of_ble_eq_true rfl) h1 h2 dL_law_1465 ?_
  refine z_istore [(5, .int (zI r.1)), (0, .ref b), (1, .ref (a 0)), (2, .ref (a 168)), (3, .ref (a 199)), (4, .int (zI i))] hc dL_law_1468 (by decide) rfl ?_
  refine z_aload_n (i := 2) 3 hc dL_law_1470 rfl rfl ?_
  refine z_aload_n (i := 0) 1 hc dL_law_1471 rfl rfl ?_
  refine z_iload 5 hc dL_law_1472 rfl ?_
  refine z_iconst hc dL_law_1474 ?_
  refine z_iadd hc dL_law_1475 ?_
  refine z_sld hX hc dL_law_1476 (by omega) ?_
  obtain ⟨q, hq, h⟩ := z_b_some h
  refine z_callVI [.int (zI (f (i + 1)))] hc hap o_X12_best ml_RL_190 (fun l hl => c_X12_best hl hq) (by omega) tT_168 (by decide) ⟨_, rfl, rfl⟩ rfl rfl (Nat.le_of_ble_eq_true rfl) (by omega) (by omega) dL_law_1477 ?_
  refine z_istore [(6, .int (zI q.1)), (5, .int (zI r.1)), (0, .ref b), (1, .ref (a 0)), (2, .ref (a 168)), (3, .ref (a 199)), (4, .int (zI i))] hc dL_law_1480 (by decide) rfl ?_
  refine z_aload_n (i := 2) 4 hc dL_law_1482 rfl rfl ?_
  obtain ⟨t, ht, h⟩ := z_b_some h
  refine z_callVI [] hc hap o_X12_thrown ml_RL_121 (fun l hl => c_X12_thrown hl ht) (by omega) tT_168 (by decide) ⟨_, rfl, rfl⟩ rfl rfl (Nat.le_of_ble_eq_true rfl) (by omega) (by omega) dL_law_1483 ?_
  refine z_iload 1 hc dL_law_1486 rfl ?_
  obtain ⟨⟨hz9, he9⟩, h⟩ := z_g_some h
  refine z_icmp_eq (X := some ()) (Y := none) (o := ()) (tgt := 1493) hc dL_law_1488 (by decide) (by rw [z_g_pos hz9, if_pos he9]) (fun _ _ => ?_) (fun _ h9 => nomatch h9)
  refine z_iload 1 hc dL_law_1493 rfl ?_
  obtain ⟨hv9, h⟩ := z_g_some h
  have h := Option.some.inj h
  subst h
  refine z_if_ne (X := some ()) (Y := some ()) (o := ()) (tgt := 1510) hc dL_law_1495 (by decide) (by rw [z_g_pos hz9.2]; split <;> rfl) (fun e9 _ => ?_) (fun _ _ => ?_)
  · refine z_aload_n (i := 3) 5 hc dL_law_1498 rfl rfl ?_
    refine z_iconst hc dL_law_1499 ?_
    refine z_lald (kI := 199) (nI9 := 1) (X := some ()) (o := ()) hc tT_199 (by decide) rfl rfl (by decide) dL_law_1500 (z_g_pos (by decide)) (fun _ _ => ?_)
    refine z_iload 0 hc dL_law_1501 rfl ?_
    refine z_i2lc hc dL_law_1503 (hv9 e9).1 ?_
    refine z_lcmp_eq (X := some ()) (Y := none) (o := ()) (tgt := 1510) hc dL_law_1504 dL_law_1505 (by decide) (by rw [z_g_pos ⟨(hv9 e9).2.1, (hv9 e9).2.2.1⟩, if_pos (hv9 e9).2.2.2]) (fun _ _ => ?_) (fun _ h9 => nomatch h9)
    refine z_goto (tgt := 2158) hc dL_law_1510 (by decide) ?_
    refine z_sub [(0, .ref b), (1, .ref (a 0)), (2, .ref (a 168)), (3, .ref (a 199)), (4, .int (zI i))] [2, 3, 4, 5, 6] rfl ?_
    exact kk
  · refine z_goto (tgt := 2158) hc dL_law_1510 (by decide) ?_
    refine z_sub [(0, .ref b), (1, .ref (a 0)), (2, .ref (a 168)), (3, .ref (a 199)), (4, .int (zI i))] [2, 3, 4, 5, 6] rfl ?_
    exact kk
def JL_21 (f : Int → Int) (i : Int) (st : z_St) : Option z_St :=
  z_b (J_L_found (z_lor (z_lshl (f (i + 1)) 32) (z_land (f (i + 2)) 4294967295)) (f (i + 3)) (f (i + 4)) st) fun r =>
  z_b (J_X12_found (z_lor (z_lshl (f (i + 1)) 32) (z_land (f (i + 2)) 4294967295)) (f (i + 3)) (f (i + 4)) r.2) fun q =>
  z_b (J_X12_thrown q.2) fun t =>
  z_g ((z32 t ∧ z32 r.1) ∧ t = r.1) <|
  z_g (r.1 = 0 → z64 q.1 ∧ z64 (q.2 199 0) ∧ z64 q.1 ∧ q.2 199 0 = q.1) <|
  some q.2
set_option maxRecDepth 100000 in
set_option maxHeartbeats 4000000 in
theorem wl_21 {κ : zK} {a : Nat → Nat} {f : Int → Int} {i : Int} {n b cells slots lam mc ms : Nat} {st o : z_St} (hc : z_C κ RL cL_law 8 lam mc ms) (hl9 : 30 ≤ lam) (hap : z_AP κ a z_N) (hX : z_SX κ b n f) (hi : 0 ≤ i ∧ i + 5 ≤ n) (h1 : cells + 1 ≤ mc) (h2 : slots + 6 ≤ ms) (h : JL_21 f i st = some o) (kk : z_V κ z_T z_N a (cells + 1) (slots + 6) 2158 [(0, .ref b), (1, .ref (a 0)), (2, .ref (a 168)), (3, .ref (a 199)), (4, .int (zI i))] [] o) : z_V κ z_T z_N a cells slots 1513 [(0, .ref b), (1, .ref (a 0)), (2, .ref (a 168)), (3, .ref (a 199)), (4, .int (zI i))] [] st := by
  have hn9 := z_SXn hX
  refine z_aload_n (i := 1) 1 hc dL_law_1513 rfl rfl ?_
  refine z_aload_n (i := 0) 0 hc dL_law_1514 rfl rfl ?_
  refine z_iload 4 hc dL_law_1515 rfl ?_
  refine z_iconst hc dL_law_1517 ?_
  refine z_iadd hc dL_law_1518 ?_
  refine z_sld hX hc dL_law_1519 (by omega) ?_
  refine z_i2lc hc dL_law_1520 (z_SXf hX _) ?_
  refine z_bipush hc dL_law_1521 rfl ?_
  refine z_lshl_r hc dL_law_1523 ?_
  refine z_aload_n (i := 0) 0 hc dL_law_1524 rfl rfl ?_
  refine z_iload 4 hc dL_law_1525 rfl ?_
  refine z_iconst hc dL_law_1527 ?_
  refine z_iadd hc dL_law_1528 ?_
  refine z_sld hX hc dL_law_1529 (by omega) ?_
  refine z_i2lc hc dL_law_1530 (z_SXf hX _) ?_
  refine z_ldc2 4294967295 hc kc_RL_191 dL_law_1531 rfl ?_
  refine z_land_r hc dL_law_1534 ?_
  refine z_lor_r hc dL_law_1535 ?_
  refine z_aload_n (i := 0) 0 hc dL_law_1536 rfl rfl ?_
  refine z_iload 4 hc dL_law_1537 rfl ?_
  refine z_iconst hc dL_law_1539 ?_
  refine z_iadd hc dL_law_1540 ?_
  refine z_sld hX hc dL_law_1541 (by omega) ?_
  refine z_aload_n (i := 0) 0 hc dL_law_1542 rfl rfl ?_
  refine z_iload 4 hc dL_law_1543 rfl ?_
  refine z_iconst hc dL_law_1545 ?_
  refine z_iadd hc dL_law_1546 ?_
  refine z_sld hX hc dL_law_1547 (by omega) ?_
  refine z_aload_n (i := 3) 3 hc dL_law_1548 rfl rfl ?_
  unfold JL_21 at h
  obtain ⟨r, hr, h⟩ := z_b_some h
  refine z_callW (np := 5) [.ref (a 0), .long (zJ (z_lor (z_lshl (f (i + 1)) 32) (z_land (f (i + 2)) 4294967295))), .int (zI (f (i + 3))), .int (zI (f (i + 4))), .ref (a 199)] hc hap kL_found ml_RL_193 (z_t4 165 rfl rfl) (z_t1 0 rfl rfl) (by decide +kernel) (by decide) (fun l hl => c_L_found hl hr) (by omega) rfl rfl (Nat.le_of_ble_eq_true rfl) h1 h2 dL_law_1549 ?_
  refine z_istore [(5, .int (zI r.1)), (0, .ref b), (1, .ref (a 0)), (2, .ref (a 168)), (3, .ref (a 199)), (4, .int (zI i))] hc dL_law_1552 (by decide) rfl ?_
  refine z_aload_n (i := 2) 3 hc dL_law_1554 rfl rfl ?_
  refine z_aload_n (i := 0) 1 hc dL_law_1555 rfl rfl ?_
  refine z_iload 5 hc dL_law_1556 rfl ?_
  refine z_iconst hc dL_law_1558 ?_
  refine z_iadd hc dL_law_1559 ?_
  refine z_sld hX hc dL_law_1560 (by omega) ?_
  refine z_i2lc hc dL_law_1561 (z_SXf hX _) ?_
  refine z_bipush hc dL_law_1562 rfl ?_
  refine z_lshl_r hc dL_law_1564 ?_
  refine z_aload_n (i := 0) 1 hc dL_law_1565 rfl rfl ?_
  refine z_iload 5 hc dL_law_1566 rfl ?_
  refine z_iconst hc dL_law_1568 ?_
  refine z_iadd hc dL_law_1569 ?_
  refine z_sld hX hc dL_law_1570 (by omega) ?_
  refine z_i2lc hc dL_law_1571 (z_SXf hX _) ?_
  refine z_ldc2 4294967295 hc kc_RL_191 dL_law_1572 rfl ?_
  refine z_land_r hc dL_law_1575 ?_
  refine z_lor_r hc dL_law_1576 ?_
  refine z_aload_n (i := 0) 1 hc dL_law_1577 rfl rfl ?_
  refine z_iload 5 hc dL_law_1578 rfl ?_
  refine z_iconst hc dL_law_1580 ?_
  refine z_iadd hc dL_law_1581 ?_
  refine z_sld hX hc dL_law_1582 (by omega) ?_
  refine z_aload_n (i := 0) 1 hc dL_law_1583 rfl rfl ?_
  refine z_iload 5 hc dL_law_1584 rfl ?_
  refine z_iconst hc dL_law_1586 ?_
  refine z_iadd hc dL_law_1587 ?_
  refine z_sld hX hc dL_law_1588 (by omega) ?_
  obtain ⟨q, hq, h⟩ := z_b_some h
  refine z_callVJ [.long (zJ (z_lor (z_lshl (f (i + 1)) 32) (z_land (f (i + 2)) 4294967295))), .int (zI (f (i + 3))), .int (zI (f (i + 4)))] hc hap o_X12_found ml_RL_196 (fun l hl => c_X12_found hl hq) (by omega) tT_168 (by decide) ⟨_, rfl, rfl⟩ rfl rfl (Nat.le_of_ble_eq_true rfl) (by omega) (by omega) dL_law_1589 ?_
  refine z_lstore [(6, .long (zJ q.1)), (5, .int (zI r.1)), (0, .ref b), (1, .ref (a 0)), (2, .ref (a 168)), (3, .ref (a 199)), (4, .int (zI i))] hc dL_law_1592 (by decide) rfl ?_
  refine z_aload_n (i := 2) 4 hc dL_law_1594 rfl rfl ?_
  obtain ⟨t, ht, h⟩ := z_b_some h
  refine z_callVI [] hc hap o_X12_thrown ml_RL_121 (fun l hl => c_X12_thrown hl ht) (by omega) tT_168 (by decide) ⟨_, rfl, rfl⟩ rfl rfl (Nat.le_of_ble_eq_true rfl) (by omega) (by omega) dL_law_1595 ?_
  refine z_iload 1 hc dL_law_1598 rfl ?_
  obtain ⟨⟨hz9, he9⟩, h⟩ := z_g_some h
  refine z_icmp_eq (X := some ()) (Y := none) (o := ()) (tgt := 1605) hc dL_law_1600 (by decide) (by rw [z_g_pos hz9, if_pos he9]) (fun _ _ => ?_) (fun _ h9 => nomatch h9)
  refine z_iload 1 hc dL_law_1605 rfl ?_
  obtain ⟨hv9, h⟩ := z_g_some h
  have h := Option.some.inj h
  subst h
  refine z_if_ne (X := some ()) (Y := some ()) (o := ()) (tgt := 1621) hc dL_law_1607 (by decide) (by rw [z_g_pos hz9.2]; split <;> rfl) (fun e9 _ => ?_) (fun _ _ => ?_)
  · refine z_aload_n (i := 3) 5 hc dL_law_1610 rfl rfl ?_
    refine z_iconst hc dL_law_1611 ?_
    refine z_lald (kI := 199) (nI9 := 1) (X := some ()) (o := ()) hc tT_199 (by decide) rfl rfl (by decide) dL_law_1612 (z_g_pos (by decide)) (fun _ _ => ?_)
    refine z_lload 0 hc dL_law_1613 rfl ?_
    refine z_lcmp_eq (X := some ()) (Y := none) (o := ()) (tgt := 1621) hc dL_law_1615 dL_law_1616 (by decide) (by rw [z_g_pos ⟨(hv9 e9).2.1, (hv9 e9).2.2.1⟩, if_pos (hv9 e9).2.2.2]) (fun _ _ => ?_) (fun _ h9 => nomatch h9)
    refine z_goto (tgt := 2158) hc dL_law_1621 (by decide) ?_
    refine z_sub [(0, .ref b), (1, .ref (a 0)), (2, .ref (a 168)), (3, .ref (a 199)), (4, .int (zI i))] [2, 3, 4, 5, 6] rfl ?_
    exact kk
  · refine z_goto (tgt := 2158) hc dL_law_1621 (by decide) ?_
    refine z_sub [(0, .ref b), (1, .ref (a 0)), (2, .ref (a 168)), (3, .ref (a 199)), (4, .int (zI i))] [2, 3, 4, 5, 6] rfl ?_
    exact kk
def JL_22 (f : Int → Int) (i : Int) (st : z_St) : Option z_St :=
  z_b (J_L_arcs (z_lor (z_lshl (f (i + 1)) 32) (z_land (f (i + 2)) 4294967295)) st) fun r =>
  z_b (J_X12_arcs (z_lor (z_lshl (f (i + 1)) 32) (z_land (f (i + 2)) 4294967295)) r.2) fun q =>
  z_b (J_X12_thrown q.2) fun t =>
  z_g ((z32 t ∧ z32 r.1) ∧ t = r.1) <|
  z_g (r.1 = 0 → z32 q.1 ∧ z64 (q.2 199 0) ∧ z64 q.1 ∧ q.2 199 0 = q.1) <|
  some q.2
set_option maxRecDepth 100000 in
set_option maxHeartbeats 4000000 in
theorem wl_22 {κ : zK} {a : Nat → Nat} {f : Int → Int} {i : Int} {n b cells slots lam mc ms : Nat} {st o : z_St} (hc : z_C κ RL cL_law 8 lam mc ms) (hl9 : 30 ≤ lam) (hap : z_AP κ a z_N) (hX : z_SX κ b n f) (hi : 0 ≤ i ∧ i + 5 ≤ n) (h1 : cells + 1 ≤ mc) (h2 : slots + 6 ≤ ms) (h : JL_22 f i st = some o) (kk : z_V κ z_T z_N a (cells + 1) (slots + 6) 2158 [(0, .ref b), (1, .ref (a 0)), (2, .ref (a 168)), (3, .ref (a 199)), (4, .int (zI i))] [] o) : z_V κ z_T z_N a cells slots 1624 [(0, .ref b), (1, .ref (a 0)), (2, .ref (a 168)), (3, .ref (a 199)), (4, .int (zI i))] [] st := by
  have hn9 := z_SXn hX
  refine z_aload_n (i := 1) 1 hc dL_law_1624 rfl rfl ?_
  refine z_aload_n (i := 0) 0 hc dL_law_1625 rfl rfl ?_
  refine z_iload 4 hc dL_law_1626 rfl ?_
  refine z_iconst hc dL_law_1628 ?_
  refine z_iadd hc dL_law_1629 ?_
  refine z_sld hX hc dL_law_1630 (by omega) ?_
  refine z_i2lc hc dL_law_1631 (z_SXf hX _) ?_
  refine z_bipush hc dL_law_1632 rfl ?_
  refine z_lshl_r hc dL_law_1634 ?_
  refine z_aload_n (i := 0) 0 hc dL_law_1635 rfl rfl ?_
  refine z_iload 4 hc dL_law_1636 rfl ?_
  refine z_iconst hc dL_law_1638 ?_
  refine z_iadd hc dL_law_1639 ?_
  refine z_sld hX hc dL_law_1640 (by omega) ?_
  refine z_i2lc hc dL_law_1641 (z_SXf hX _) ?_
  refine z_ldc2 4294967295 hc kc_RL_191 dL_law_1642 rfl ?_
  refine z_land_r hc dL_law_1645 ?_
  refine z_lor_r hc dL_law_1646 ?_
  refine z_aload_n (i := 3) 3 hc dL_law_1647 rfl rfl ?_
  unfold JL_22 at h
  obtain ⟨r, hr, h⟩ := z_b_some h
  refine z_callW (np := 3) [.ref (a 0), .long (zJ (z_lor (z_lshl (f (i + 1)) 32) (z_land (f (i + 2)) 4294967295))), .ref (a 199)] hc hap kL_arcs ml_RL_197 (z_t4 209 rfl rfl) (z_t1 0 rfl rfl) (by decide +kernel) (by decide) (fun l hl => c_L_arcs hl hr) (by omega) rfl rfl (Nat.le_of_ble_eq_true rfl) h1 h2 dL_law_1648 ?_
  refine z_istore [(5, .int (zI r.1)), (0, .ref b), (1, .ref (a 0)), (2, .ref (a 168)), (3, .ref (a 199)), (4, .int (zI i))] hc dL_law_1651 (by decide) rfl ?_
  refine z_aload_n (i := 2) 3 hc dL_law_1653 rfl rfl ?_
  refine z_aload_n (i := 0) 1 hc dL_law_1654 rfl rfl ?_
  refine z_iload 5 hc dL_law_1655 rfl ?_
  refine z_iconst hc dL_law_1657 ?_
  refine z_iadd hc dL_law_1658 ?_
  refine z_sld hX hc dL_law_1659 (by omega) ?_
  refine z_i2lc hc dL_law_1660 (z_SXf hX _) ?_
  refine z_bipush hc dL_law_1661 rfl ?_
  refine z_lshl_r hc dL_law_1663 ?_
  refine z_aload_n (i := 0) 1 hc dL_law_1664 rfl rfl ?_
  refine z_iload 5 hc dL_law_1665 rfl ?_
  refine z_iconst hc dL_law_1667 ?_
  refine z_iadd hc dL_law_1668 ?_
  refine z_sld hX hc dL_law_1669 (by omega) ?_
  refine z_i2lc hc dL_law_1670 (z_SXf hX _) ?_
  refine z_ldc2 4294967295 hc kc_RL_191 dL_law_1671 rfl ?_
  refine z_land_r hc dL_law_1674 ?_
  refine z_lor_r hc dL_law_1675 ?_
  obtain ⟨q, hq, h⟩ := z_b_some h
  refine z_callVI [.long (zJ (z_lor (z_lshl (f (i + 1)) 32) (z_land (f (i + 2)) 4294967295)))] hc hap o_X12_arcs ml_RL_200 (fun l hl => c_X12_arcs hl hq) (by omega) tT_168 (by decide) ⟨_, rfl, rfl⟩ rfl rfl (Nat.le_of_ble_eq_true rfl) (by omega) (by omega) dL_law_1676 ?_
  refine z_istore [(6, .int (zI q.1)), (5, .int (zI r.1)), (0, .ref b), (1, .ref (a 0)), (2, .ref (a 168)), (3, .ref (a 199)), (4, .int (zI i))] hc dL_law_1679 (by decide) rfl ?_
  refine z_aload_n (i := 2) 4 hc dL_law_1681 rfl rfl ?_
  obtain ⟨t, ht, h⟩ := z_b_some h
  refine z_callVI [] hc hap o_X12_thrown ml_RL_121 (fun l hl => c_X12_thrown hl ht) (by omega) tT_168 (by decide) ⟨_, rfl, rfl⟩ rfl rfl (Nat.le_of_ble_eq_true rfl) (by omega) (by omega) dL_law_1682 ?_
  refine z_iload 1 hc dL_law_1685 rfl ?_
  obtain ⟨⟨hz9, he9⟩, h⟩ := z_g_some h
  refine z_icmp_eq (X := some ()) (Y := none) (o := ()) (tgt := 1692) hc dL_law_1687 (by decide) (by rw [z_g_pos hz9, if_pos he9]) (fun _ _ => ?_) (fun _ h9 => nomatch h9)
  refine z_iload 1 hc dL_law_1692 rfl ?_
  obtain ⟨hv9, h⟩ := z_g_some h
  have h := Option.some.inj h
  subst h
  refine z_if_ne (X := some ()) (Y := some ()) (o := ()) (tgt := 1709) hc dL_law_1694 (by decide) (by rw [z_g_pos hz9.2]; split <;> rfl) (fun e9 _ => ?_) (fun _ _ => ?_)
  · refine z_aload_n (i := 3) 5 hc dL_law_1697 rfl rfl ?_
    refine z_iconst hc dL_law_1698 ?_
    refine z_lald (kI := 199) (nI9 := 1) (X := some ()) (o := ()) hc tT_199 (by decide) rfl rfl (by decide) dL_law_1699 (z_g_pos (by decide)) (fun _ _ => ?_)
    refine z_iload 0 hc dL_law_1700 rfl ?_
    refine z_i2lc hc dL_law_1702 (hv9 e9).1 ?_
    refine z_lcmp_eq (X := some ()) (Y := none) (o := ()) (tgt := 1709) hc dL_law_1703 dL_law_1704 (by decide) (by rw [z_g_pos ⟨(hv9 e9).2.1, (hv9 e9).2.2.1⟩, if_pos (hv9 e9).2.2.2]) (fun _ _ => ?_) (fun _ h9 => nomatch h9)
    refine z_goto (tgt := 2158) hc dL_law_1709 (by decide) ?_
    refine z_sub [(0, .ref b), (1, .ref (a 0)), (2, .ref (a 168)), (3, .ref (a 199)), (4, .int (zI i))] [2, 3, 4, 5, 6] rfl ?_
    exact kk
  · refine z_goto (tgt := 2158) hc dL_law_1709 (by decide) ?_
    refine z_sub [(0, .ref b), (1, .ref (a 0)), (2, .ref (a 168)), (3, .ref (a 199)), (4, .int (zI i))] [2, 3, 4, 5, 6] rfl ?_
    exact kk
def JL_23 (f : Int → Int) (i : Int) (st : z_St) : Option z_St :=
  z_b (J_L_arc (z_lor (z_lshl (f (i + 1)) 32) (z_land (f (i + 2)) 4294967295)) (f (i + 3)) (f (i + 4)) st) fun r =>
  z_b (J_X12_arc (z_lor (z_lshl (f (i + 1)) 32) (z_land (f (i + 2)) 4294967295)) (f (i + 3)) (f (i + 4)) r.2) fun q =>
  z_b (J_X12_thrown q.2) fun t =>
  z_g ((z32 t ∧ z32 r.1) ∧ t = r.1) <|
  z_g (r.1 = 0 → z64 q.1 ∧ z64 (q.2 199 0) ∧ z64 q.1 ∧ q.2 199 0 = q.1) <|
  some q.2
set_option maxRecDepth 100000 in
set_option maxHeartbeats 4000000 in
theorem wl_23 {κ : zK} {a : Nat → Nat} {f : Int → Int} {i : Int} {n b cells slots lam mc ms : Nat} {st o : z_St} (hc : z_C κ RL cL_law 8 lam mc ms) (hl9 : 30 ≤ lam) (hap : z_AP κ a z_N) (hX : z_SX κ b n f) (hi : 0 ≤ i ∧ i + 5 ≤ n) (h1 : cells + 1 ≤ mc) (h2 : slots + 6 ≤ ms) (h : JL_23 f i st = some o) (kk : z_V κ z_T z_N a (cells + 1) (slots + 6) 2158 [(0, .ref b), (1, .ref (a 0)), (2, .ref (a 168)), (3, .ref (a 199)), (4, .int (zI i))] [] o) : z_V κ z_T z_N a cells slots 1712 [(0, .ref b), (1, .ref (a 0)), (2, .ref (a 168)), (3, .ref (a 199)), (4, .int (zI i))] [] st := by
  have hn9 := z_SXn hX
  refine z_aload_n (i := 1) 1 hc dL_law_1712 rfl rfl ?_
  refine z_aload_n (i := 0) 0 hc dL_law_1713 rfl rfl ?_
  refine z_iload 4 hc dL_law_1714 rfl ?_
  refine z_iconst hc dL_law_1716 ?_
  refine z_iadd hc dL_law_1717 ?_
  refine z_sld hX hc dL_law_1718 (by omega) ?_
  refine z_i2lc hc dL_law_1719 (z_SXf hX _) ?_
  refine z_bipush hc dL_law_1720 rfl ?_
  refine z_lshl_r hc dL_law_1722 ?_
  refine z_aload_n (i := 0) 0 hc dL_law_1723 rfl rfl ?_
  refine z_iload 4 hc dL_law_1724 rfl ?_
  refine z_iconst hc dL_law_1726 ?_
  refine z_iadd hc dL_law_1727 ?_
  refine z_sld hX hc dL_law_1728 (by omega) ?_
  refine z_i2lc hc dL_law_1729 (z_SXf hX _) ?_
  refine z_ldc2 4294967295 hc kc_RL_191 dL_law_1730 rfl ?_
  refine z_land_r hc dL_law_1733 ?_
  refine z_lor_r hc dL_law_1734 ?_
  refine z_aload_n (i := 0) 0 hc dL_law_1735 rfl rfl ?_
  refine z_iload 4 hc dL_law_1736 rfl ?_
  refine z_iconst hc dL_law_1738 ?_
  refine z_iadd hc dL_law_1739 ?_
  refine z_sld hX hc dL_law_1740 (by omega) ?_
  refine z_aload_n (i := 0) 0 hc dL_law_1741 rfl rfl ?_
  refine z_iload 4 hc dL_law_1742 rfl ?_
  refine z_iconst hc dL_law_1744 ?_
  refine z_iadd hc dL_law_1745 ?_
  refine z_sld hX hc dL_law_1746 (by omega) ?_
  refine z_aload_n (i := 3) 3 hc dL_law_1747 rfl rfl ?_
  unfold JL_23 at h
  obtain ⟨r, hr, h⟩ := z_b_some h
  refine z_callW (np := 5) [.ref (a 0), .long (zJ (z_lor (z_lshl (f (i + 1)) 32) (z_land (f (i + 2)) 4294967295))), .int (zI (f (i + 3))), .int (zI (f (i + 4))), .ref (a 199)] hc hap kL_arc ml_RL_201 (z_t5 14 rfl rfl) (z_t1 0 rfl rfl) (by decide +kernel) (by decide) (fun l hl => c_L_arc hl hr) (by omega) rfl rfl (Nat.le_of_ble_eq_true rfl) h1 h2 dL_law_1748 ?_
  refine z_istore [(5, .int (zI r.1)), (0, .ref b), (1, .ref (a 0)), (2, .ref (a 168)), (3, .ref (a 199)), (4, .int (zI i))] hc dL_law_1751 (by decide) rfl ?_
  refine z_aload_n (i := 2) 3 hc dL_law_1753 rfl rfl ?_
  refine z_aload_n (i := 0) 1 hc dL_law_1754 rfl rfl ?_
  refine z_iload 5 hc dL_law_1755 rfl ?_
  refine z_iconst hc dL_law_1757 ?_
  refine z_iadd hc dL_law_1758 ?_
  refine z_sld hX hc dL_law_1759 (by omega) ?_
  refine z_i2lc hc dL_law_1760 (z_SXf hX _) ?_
  refine z_bipush hc dL_law_1761 rfl ?_
  refine z_lshl_r hc dL_law_1763 ?_
  refine z_aload_n (i := 0) 1 hc dL_law_1764 rfl rfl ?_
  refine z_iload 5 hc dL_law_1765 rfl ?_
  refine z_iconst hc dL_law_1767 ?_
  refine z_iadd hc dL_law_1768 ?_
  refine z_sld hX hc dL_law_1769 (by omega) ?_
  refine z_i2lc hc dL_law_1770 (z_SXf hX _) ?_
  refine z_ldc2 4294967295 hc kc_RL_191 dL_law_1771 rfl ?_
  refine z_land_r hc dL_law_1774 ?_
  refine z_lor_r hc dL_law_1775 ?_
  refine z_aload_n (i := 0) 1 hc dL_law_1776 rfl rfl ?_
  refine z_iload 5 hc dL_law_1777 rfl ?_
  refine z_iconst hc dL_law_1779 ?_
  refine z_iadd hc dL_law_1780 ?_
  refine z_sld hX hc dL_law_1781 (by omega) ?_
  refine z_aload_n (i := 0) 1 hc dL_law_1782 rfl rfl ?_
  refine z_iload 5 hc dL_law_1783 rfl ?_
  refine z_iconst hc dL_law_1785 ?_
  refine z_iadd hc dL_law_1786 ?_
  refine z_sld hX hc dL_law_1787 (by omega) ?_
  obtain ⟨q, hq, h⟩ := z_b_some h
  refine z_callVJ [.long (zJ (z_lor (z_lshl (f (i + 1)) 32) (z_land (f (i + 2)) 4294967295))), .int (zI (f (i + 3))), .int (zI (f (i + 4)))] hc hap o_X12_arc ml_RL_203 (fun l hl => c_X12_arc hl hq) (by omega) tT_168 (by decide) ⟨_, rfl, rfl⟩ rfl rfl (Nat.le_of_ble_eq_true rfl) (by omega) (by omega) dL_law_1788 ?_
  refine z_lstore [(6, .long (zJ q.1)), (5, .int (zI r.1)), (0, .ref b), (1, .ref (a 0)), (2, .ref (a 168)), (3, .ref (a 199)), (4, .int (zI i))] hc dL_law_1791 (by decide) rfl ?_
  refine z_aload_n (i := 2) 4 hc dL_law_1793 rfl rfl ?_
  obtain ⟨t, ht, h⟩ := z_b_some h
  refine z_callVI [] hc hap o_X12_thrown ml_RL_121 (fun l hl => c_X12_thrown hl ht) (by omega) tT_168 (by decide) ⟨_, rfl, rfl⟩ rfl rfl (Nat.le_of_ble_eq_true rfl) (by omega) (by omega) dL_law_1794 ?_
  refine z_iload 1 hc dL_law_1797 rfl ?_
  obtain ⟨⟨hz9, he9⟩, h⟩ := z_g_some h
  refine z_icmp_eq (X := some ()) (Y := none) (o := ()) (tgt := 1804) hc dL_law_1799 (by decide) (by rw [z_g_pos hz9, if_pos he9]) (fun _ _ => ?_) (fun _ h9 => nomatch h9)
  refine z_iload 1 hc dL_law_1804 rfl ?_
  obtain ⟨hv9, h⟩ := z_g_some h
  have h := Option.some.inj h
  subst h
  refine z_if_ne (X := some ()) (Y := some ()) (o := ()) (tgt := 1820) hc dL_law_1806 (by decide) (by rw [z_g_pos hz9.2]; split <;> rfl) (fun e9 _ => ?_) (fun _ _ => ?_)
  · refine z_aload_n (i := 3) 5 hc dL_law_1809 rfl rfl ?_
    refine z_iconst hc dL_law_1810 ?_
    refine z_lald (kI := 199) (nI9 := 1) (X := some ()) (o := ()) hc tT_199 (by decide) rfl rfl (by decide) dL_law_1811 (z_g_pos (by decide)) (fun _ _ => ?_)
    refine z_lload 0 hc dL_law_1812 rfl ?_
    refine z_lcmp_eq (X := some ()) (Y := none) (o := ()) (tgt := 1820) hc dL_law_1814 dL_law_1815 (by decide) (by rw [z_g_pos ⟨(hv9 e9).2.1, (hv9 e9).2.2.1⟩, if_pos (hv9 e9).2.2.2]) (fun _ _ => ?_) (fun _ h9 => nomatch h9)
    refine z_goto (tgt := 2158) hc dL_law_1820 (by decide) ?_
    refine z_sub [(0, .ref b), (1, .ref (a 0)), (2, .ref (a 168)), (3, .ref (a 199)), (4, .int (zI i))] [2, 3, 4, 5, 6] rfl ?_
    exact kk
  · refine z_goto (tgt := 2158) hc dL_law_1820 (by decide) ?_
    refine z_sub [(0, .ref b), (1, .ref (a 0)), (2, .ref (a 168)), (3, .ref (a 199)), (4, .int (zI i))] [2, 3, 4, 5, 6] rfl ?_
    exact kk
def JL_24 (f : Int → Int) (i : Int) (st : z_St) : Option z_St :=
  z_b (J_L_keyword (f (i + 1)) st) fun r =>
  z_b (J_X12_keyword (f (i + 1)) r.2) fun q =>
  z_b (J_X12_thrown q.2) fun t =>
  z_g ((z32 t ∧ z32 r.1) ∧ t = r.1) <|
  z_g (r.1 = 0 → z64 q.1 ∧ z64 (q.2 199 0) ∧ z64 q.1 ∧ q.2 199 0 = q.1) <|
  some q.2
set_option maxRecDepth 100000 in
set_option maxHeartbeats 4000000 in
theorem wl_24 {κ : zK} {a : Nat → Nat} {f : Int → Int} {i : Int} {n b cells slots lam mc ms : Nat} {st o : z_St} (hc : z_C κ RL cL_law 8 lam mc ms) (hl9 : 30 ≤ lam) (hap : z_AP κ a z_N) (hX : z_SX κ b n f) (hi : 0 ≤ i ∧ i + 5 ≤ n) (h1 : cells + 1 ≤ mc) (h2 : slots + 6 ≤ ms) (h : JL_24 f i st = some o) (kk : z_V κ z_T z_N a (cells + 1) (slots + 6) 2158 [(0, .ref b), (1, .ref (a 0)), (2, .ref (a 168)), (3, .ref (a 199)), (4, .int (zI i))] [] o) : z_V κ z_T z_N a cells slots 1823 [(0, .ref b), (1, .ref (a 0)), (2, .ref (a 168)), (3, .ref (a 199)), (4, .int (zI i))] [] st := by
  have hn9 := z_SXn hX
  refine z_aload_n (i := 1) 1 hc dL_law_1823 rfl rfl ?_
  refine z_aload_n (i := 0) 0 hc dL_law_1824 rfl rfl ?_
  refine z_iload 4 hc dL_law_1825 rfl ?_
  refine z_iconst hc dL_law_1827 ?_
  refine z_iadd hc dL_law_1828 ?_
  refine z_sld hX hc dL_law_1829 (by omega) ?_
  refine z_aload_n (i := 3) 3 hc dL_law_1830 rfl rfl ?_
  unfold JL_24 at h
  obtain ⟨r, hr, h⟩ := z_b_some h
  refine z_callW (np := 3) [.ref (a 0), .int (zI (f (i + 1))), .ref (a 199)] hc hap kL_keyword ml_RL_204 (z_t5 26 rfl rfl) (z_t1 0 rfl rfl) (by decide +kernel) (by decide) (fun l hl => c_L_keyword hl hr) (by omega) rfl rfl (Nat.le_of_ble_eq_true rfl) h1 h2 dL_law_1831 ?_
  refine z_istore [(5, .int (zI r.1)), (0, .ref b), (1, .ref (a 0)), (2, .ref (a 168)), (3, .ref (a 199)), (4, .int (zI i))] hc dL_law_1834 (by decide) rfl ?_
  refine z_aload_n (i := 2) 3 hc dL_law_1836 rfl rfl ?_
  refine z_aload_n (i := 0) 1 hc dL_law_1837 rfl rfl ?_
  refine z_iload 5 hc dL_law_1838 rfl ?_
  refine z_iconst hc dL_law_1840 ?_
  refine z_iadd hc dL_law_1841 ?_
  refine z_sld hX hc dL_law_1842 (by omega) ?_
  obtain ⟨q, hq, h⟩ := z_b_some h
  refine z_callVJ [.int (zI (f (i + 1)))] hc hap o_X12_keyword ml_RL_206 (fun l hl => c_X12_keyword hl hq) (by omega) tT_168 (by decide) ⟨_, rfl, rfl⟩ rfl rfl (Nat.le_of_ble_eq_true rfl) (by omega) (by omega) dL_law_1843 ?_
  refine z_lstore [(6, .long (zJ q.1)), (5, .int (zI r.1)), (0, .ref b), (1, .ref (a 0)), (2, .ref (a 168)), (3, .ref (a 199)), (4, .int (zI i))] hc dL_law_1846 (by decide) rfl ?_
  refine z_aload_n (i := 2) 4 hc dL_law_1848 rfl rfl ?_
  obtain ⟨t, ht, h⟩ := z_b_some h
  refine z_callVI [] hc hap o_X12_thrown ml_RL_121 (fun l hl => c_X12_thrown hl ht) (by omega) tT_168 (by decide) ⟨_, rfl, rfl⟩ rfl rfl (Nat.le_of_ble_eq_true rfl) (by omega) (by omega) dL_law_1849 ?_
  refine z_iload 1 hc dL_law_1852 rfl ?_
  obtain ⟨⟨hz9, he9⟩, h⟩ := z_g_some h
  refine z_icmp_eq (X := some ()) (Y := none) (o := ()) (tgt := 1859) hc dL_law_1854 (by decide) (by rw [z_g_pos hz9, if_pos he9]) (fun _ _ => ?_) (fun _ h9 => nomatch h9)
  refine z_iload 1 hc dL_law_1859 rfl ?_
  obtain ⟨hv9, h⟩ := z_g_some h
  have h := Option.some.inj h
  subst h
  refine z_if_ne (X := some ()) (Y := some ()) (o := ()) (tgt := 1875) hc dL_law_1861 (by decide) (by rw [z_g_pos hz9.2]; split <;> rfl) (fun e9 _ => ?_) (fun _ _ => ?_)
  · refine z_aload_n (i := 3) 5 hc dL_law_1864 rfl rfl ?_
    refine z_iconst hc dL_law_1865 ?_
    refine z_lald (kI := 199) (nI9 := 1) (X := some ()) (o := ()) hc tT_199 (by decide) rfl rfl (by decide) dL_law_1866 (z_g_pos (by decide)) (fun _ _ => ?_)
    refine z_lload 0 hc dL_law_1867 rfl ?_
    refine z_lcmp_eq (X := some ()) (Y := none) (o := ()) (tgt := 1875) hc dL_law_1869 dL_law_1870 (by decide) (by rw [z_g_pos ⟨(hv9 e9).2.1, (hv9 e9).2.2.1⟩, if_pos (hv9 e9).2.2.2]) (fun _ _ => ?_) (fun _ h9 => nomatch h9)
    refine z_goto (tgt := 2158) hc dL_law_1875 (by decide) ?_
    refine z_sub [(0, .ref b), (1, .ref (a 0)), (2, .ref (a 168)), (3, .ref (a 199)), (4, .int (zI i))] [2, 3, 4, 5, 6] rfl ?_
    exact kk
  · refine z_goto (tgt := 2158) hc dL_law_1875 (by decide) ?_
    refine z_sub [(0, .ref b), (1, .ref (a 0)), (2, .ref (a 168)), (3, .ref (a 199)), (4, .int (zI i))] [2, 3, 4, 5, 6] rfl ?_
    exact kk
def JL_25 (f : Int → Int) (i : Int) (st : z_St) : Option z_St :=
  z_b (J_L_sure (z_lor (z_lshl (f (i + 1)) 32) (z_land (f (i + 2)) 4294967295)) (f (i + 3)) st) fun r =>
  z_b (J_X12_sure (z_lor (z_lshl (f (i + 1)) 32) (z_land (f (i + 2)) 4294967295)) (f (i + 3)) r.2) fun q =>
  z_b (J_X12_thrown q.2) fun t =>
  z_g ((z32 t ∧ z32 r.1) ∧ t = r.1) <|
  z_g (r.1 = 0 → z32 q.1 ∧ z64 (q.2 199 0) ∧ z64 q.1 ∧ q.2 199 0 = q.1) <|
  some q.2
set_option maxRecDepth 100000 in
set_option maxHeartbeats 4000000 in
theorem wl_25 {κ : zK} {a : Nat → Nat} {f : Int → Int} {i : Int} {n b cells slots lam mc ms : Nat} {st o : z_St} (hc : z_C κ RL cL_law 8 lam mc ms) (hl9 : 30 ≤ lam) (hap : z_AP κ a z_N) (hX : z_SX κ b n f) (hi : 0 ≤ i ∧ i + 5 ≤ n) (h1 : cells + 1 ≤ mc) (h2 : slots + 6 ≤ ms) (h : JL_25 f i st = some o) (kk : z_V κ z_T z_N a (cells + 1) (slots + 6) 2158 [(0, .ref b), (1, .ref (a 0)), (2, .ref (a 168)), (3, .ref (a 199)), (4, .int (zI i))] [] o) : z_V κ z_T z_N a cells slots 1878 [(0, .ref b), (1, .ref (a 0)), (2, .ref (a 168)), (3, .ref (a 199)), (4, .int (zI i))] [] st := by
  have hn9 := z_SXn hX
  refine z_aload_n (i := 1) 1 hc dL_law_1878 rfl rfl ?_
  refine z_aload_n (i := 0) 0 hc dL_law_1879 rfl rfl ?_
  refine z_iload 4 hc dL_law_1880 rfl ?_
  refine z_iconst hc dL_law_1882 ?_
  refine z_iadd hc dL_law_1883 ?_
  refine z_sld hX hc dL_law_1884 (by omega) ?_
  refine z_i2lc hc dL_law_1885 (z_SXf hX _) ?_
  refine z_bipush hc dL_law_1886 rfl ?_
  refine z_lshl_r hc dL_law_1888 ?_
  refine z_aload_n (i := 0) 0 hc dL_law_1889 rfl rfl ?_
  refine z_iload 4 hc dL_law_1890 rfl ?_
  refine z_iconst hc dL_law_1892 ?_
  refine z_iadd hc dL_law_1893 ?_
  refine z_sld hX hc dL_law_1894 (by omega) ?_
  refine z_i2lc hc dL_law_1895 (z_SXf hX _) ?_
  refine z_ldc2 4294967295 hc kc_RL_191 dL_law_1896 rfl ?_
  refine z_land_r hc dL_law_1899 ?_
  refine z_lor_r hc dL_law_1900 ?_
  refine z_aload_n (i := 0) 0 hc dL_law_1901 rfl rfl ?_
  refine z_iload 4 hc dL_law_1902 rfl ?_
  refine z_iconst hc dL_law_1904 ?_
  refine z_iadd hc dL_law_1905 ?_
  refine z_sld hX hc dL_law_1906 (by omega) ?_
  refine z_aload_n (i := 3) 3 hc dL_law_1907 rfl rfl ?_
  unfold JL_25 at h
  obtain ⟨r, hr, h⟩ := z_b_some h
  refine z_callW (np := 4) [.ref (a 0), .long (zJ (z_lor (z_lshl (f (i + 1)) 32) (z_land (f (i + 2)) 4294967295))), .int (zI (f (i + 3))), .ref (a 199)] hc hap kL_sure ml_RL_207 (z_t5 37 rfl rfl) (z_t1 0 rfl rfl) (by decide +kernel) (by decide) (fun l hl => c_L_sure hl hr) (by omega) rfl rfl (Nat.le_of_ble_eq_true rfl) h1 h2 dL_law_1908 ?_
  refine z_istore [(5, .int (zI r.1)), (0, .ref b), (1, .ref (a 0)), (2, .ref (a 168)), (3, .ref (a 199)), (4, .int (zI i))] hc dL_law_1911 (by decide) rfl ?_
  refine z_aload_n (i := 2) 3 hc dL_law_1913 rfl rfl ?_
  refine z_aload_n (i := 0) 1 hc dL_law_1914 rfl rfl ?_
  refine z_iload 5 hc dL_law_1915 rfl ?_
  refine z_iconst hc dL_law_1917 ?_
  refine z_iadd hc dL_law_1918 ?_
  refine z_sld hX hc dL_law_1919 (by omega) ?_
  refine z_i2lc hc dL_law_1920 (z_SXf hX _) ?_
  refine z_bipush hc dL_law_1921 rfl ?_
  refine z_lshl_r hc dL_law_1923 ?_
  refine z_aload_n (i := 0) 1 hc dL_law_1924 rfl rfl ?_
  refine z_iload 5 hc dL_law_1925 rfl ?_
  refine z_iconst hc dL_law_1927 ?_
  refine z_iadd hc dL_law_1928 ?_
  refine z_sld hX hc dL_law_1929 (by omega) ?_
  refine z_i2lc hc dL_law_1930 (z_SXf hX _) ?_
  refine z_ldc2 4294967295 hc kc_RL_191 dL_law_1931 rfl ?_
  refine z_land_r hc dL_law_1934 ?_
  refine z_lor_r hc dL_law_1935 ?_
  refine z_aload_n (i := 0) 1 hc dL_law_1936 rfl rfl ?_
  refine z_iload 5 hc dL_law_1937 rfl ?_
  refine z_iconst hc dL_law_1939 ?_
  refine z_iadd hc dL_law_1940 ?_
  refine z_sld hX hc dL_law_1941 (by omega) ?_
  obtain ⟨q, hq, h⟩ := z_b_some h
  refine z_callVI [.long (zJ (z_lor (z_lshl (f (i + 1)) 32) (z_land (f (i + 2)) 4294967295))), .int (zI (f (i + 3)))] hc hap o_X12_sure ml_RL_210 (fun l hl => c_X12_sure hl hq) (by omega) tT_168 (by decide) ⟨_, rfl, rfl⟩ rfl rfl (Nat.le_of_ble_eq_true rfl) (by omega) (by omega) dL_law_1942 ?_
  refine z_istore [(6, .int (zI q.1)), (5, .int (zI r.1)), (0, .ref b), (1, .ref (a 0)), (2, .ref (a 168)), (3, .ref (a 199)), (4, .int (zI i))] hc dL_law_1945 (by decide) rfl ?_
  refine z_aload_n (i := 2) 4 hc dL_law_1947 rfl rfl ?_
  obtain ⟨t, ht, h⟩ := z_b_some h
  refine z_callVI [] hc hap o_X12_thrown ml_RL_121 (fun l hl => c_X12_thrown hl ht) (by omega) tT_168 (by decide) ⟨_, rfl, rfl⟩ rfl rfl (Nat.le_of_ble_eq_true rfl) (by omega) (by omega) dL_law_1948 ?_
  refine z_iload 1 hc dL_law_1951 rfl ?_
  obtain ⟨⟨hz9, he9⟩, h⟩ := z_g_some h
  refine z_icmp_eq (X := some ()) (Y := none) (o := ()) (tgt := 1958) hc dL_law_1953 (by decide) (by rw [z_g_pos hz9, if_pos he9]) (fun _ _ => ?_) (fun _ h9 => nomatch h9)
  refine z_iload 1 hc dL_law_1958 rfl ?_
  obtain ⟨hv9, h⟩ := z_g_some h
  have h := Option.some.inj h
  subst h
  refine z_if_ne (X := some ()) (Y := some ()) (o := ()) (tgt := 1975) hc dL_law_1960 (by decide) (by rw [z_g_pos hz9.2]; split <;> rfl) (fun e9 _ => ?_) (fun _ _ => ?_)
  · refine z_aload_n (i := 3) 5 hc dL_law_1963 rfl rfl ?_
    refine z_iconst hc dL_law_1964 ?_
    refine z_lald (kI := 199) (nI9 := 1) (X := some ()) (o := ()) hc tT_199 (by decide) rfl rfl (by decide) dL_law_1965 (z_g_pos (by decide)) (fun _ _ => ?_)
    refine z_iload 0 hc dL_law_1966 rfl ?_
    refine z_i2lc hc dL_law_1968 (hv9 e9).1 ?_
    refine z_lcmp_eq (X := some ()) (Y := none) (o := ()) (tgt := 1975) hc dL_law_1969 dL_law_1970 (by decide) (by rw [z_g_pos ⟨(hv9 e9).2.1, (hv9 e9).2.2.1⟩, if_pos (hv9 e9).2.2.2]) (fun _ _ => ?_) (fun _ h9 => nomatch h9)
    refine z_goto (tgt := 2158) hc dL_law_1975 (by decide) ?_
    refine z_sub [(0, .ref b), (1, .ref (a 0)), (2, .ref (a 168)), (3, .ref (a 199)), (4, .int (zI i))] [2, 3, 4, 5, 6] rfl ?_
    exact kk
  · refine z_goto (tgt := 2158) hc dL_law_1975 (by decide) ?_
    refine z_sub [(0, .ref b), (1, .ref (a 0)), (2, .ref (a 168)), (3, .ref (a 199)), (4, .int (zI i))] [2, 3, 4, 5, 6] rfl ?_
    exact kk
def JL_26 (f : Int → Int) (i : Int) (st : z_St) : Option z_St :=
  z_b (J_L_path (f (i + 1)) (f (i + 2)) st) fun r =>
  z_b (J_X12_path (f (i + 1)) (f (i + 2)) r.2) fun q =>
  z_b (J_X12_thrown q.2) fun t =>
  z_g ((z32 t ∧ z32 r.1) ∧ t = r.1) <|
  z_g (r.1 = 0 → z32 q.1 ∧ z64 (q.2 199 0) ∧ z64 q.1 ∧ q.2 199 0 = q.1) <|
  some q.2
set_option maxRecDepth 100000 in
set_option maxHeartbeats 4000000 in
theorem wl_26 {κ : zK} {a : Nat → Nat} {f : Int → Int} {i : Int} {n b cells slots lam mc ms : Nat} {st o : z_St} (hc : z_C κ RL cL_law 8 lam mc ms) (hl9 : 30 ≤ lam) (hap : z_AP κ a z_N) (hX : z_SX κ b n f) (hi : 0 ≤ i ∧ i + 5 ≤ n) (h1 : cells + 1 ≤ mc) (h2 : slots + 6 ≤ ms) (h : JL_26 f i st = some o) (kk : z_V κ z_T z_N a (cells + 1) (slots + 6) 2158 [(0, .ref b), (1, .ref (a 0)), (2, .ref (a 168)), (3, .ref (a 199)), (4, .int (zI i))] [] o) : z_V κ z_T z_N a cells slots 1978 [(0, .ref b), (1, .ref (a 0)), (2, .ref (a 168)), (3, .ref (a 199)), (4, .int (zI i))] [] st := by
  have hn9 := z_SXn hX
  refine z_aload_n (i := 1) 1 hc dL_law_1978 rfl rfl ?_
  refine z_aload_n (i := 0) 0 hc dL_law_1979 rfl rfl ?_
  refine z_iload 4 hc dL_law_1980 rfl ?_
  refine z_iconst hc dL_law_1982 ?_
  refine z_iadd hc dL_law_1983 ?_
  refine z_sld hX hc dL_law_1984 (by omega) ?_
  refine z_aload_n (i := 0) 0 hc dL_law_1985 rfl rfl ?_
  refine z_iload 4 hc dL_law_1986 rfl ?_
  refine z_iconst hc dL_law_1988 ?_
  refine z_iadd hc dL_law_1989 ?_
  refine z_sld hX hc dL_law_1990 (by omega) ?_
  refine z_aload_n (i := 3) 3 hc dL_law_1991 rfl rfl ?_
  unfold JL_26 at h
  obtain ⟨r, hr, h⟩ := z_b_some h
  refine z_callW (np := 4) [.ref (a 0), .int (zI (f (i + 1))), .int (zI (f (i + 2))), .ref (a 199)] hc hap kL_path ml_RL_211 (z_t5 52 rfl rfl) (z_t1 0 rfl rfl) (by decide +kernel) (by decide) (fun l hl => c_L_path hl hr) (by omega) rfl rfl (Nat.le_of_ble_eq_true rfl) h1 h2 dL_law_1992 ?_
  refine z_istore [(5, .int (zI r.1)), (0, .ref b), (1, .ref (a 0)), (2, .ref (a 168)), (3, .ref (a 199)), (4, .int (zI i))] hc dL_law_1995 (by decide) rfl ?_
  refine z_aload_n (i := 2) 3 hc dL_law_1997 rfl rfl ?_
  refine z_aload_n (i := 0) 1 hc dL_law_1998 rfl rfl ?_
  refine z_iload 5 hc dL_law_1999 rfl ?_
  refine z_iconst hc dL_law_2001 ?_
  refine z_iadd hc dL_law_2002 ?_
  refine z_sld hX hc dL_law_2003 (by omega) ?_
  refine z_aload_n (i := 0) 1 hc dL_law_2004 rfl rfl ?_
  refine z_iload 5 hc dL_law_2005 rfl ?_
  refine z_iconst hc dL_law_2007 ?_
  refine z_iadd hc dL_law_2008 ?_
  refine z_sld hX hc dL_law_2009 (by omega) ?_
  obtain ⟨q, hq, h⟩ := z_b_some h
  refine z_callVI [.int (zI (f (i + 1))), .int (zI (f (i + 2)))] hc hap o_X12_path ml_RL_213 (fun l hl => c_X12_path hl hq) (by omega) tT_168 (by decide) ⟨_, rfl, rfl⟩ rfl rfl (Nat.le_of_ble_eq_true rfl) (by omega) (by omega) dL_law_2010 ?_
  refine z_istore [(6, .int (zI q.1)), (5, .int (zI r.1)), (0, .ref b), (1, .ref (a 0)), (2, .ref (a 168)), (3, .ref (a 199)), (4, .int (zI i))] hc dL_law_2013 (by decide) rfl ?_
  refine z_aload_n (i := 2) 4 hc dL_law_2015 rfl rfl ?_
  obtain ⟨t, ht, h⟩ := z_b_some h
  refine z_callVI [] hc hap o_X12_thrown ml_RL_121 (fun l hl => c_X12_thrown hl ht) (by omega) tT_168 (by decide) ⟨_, rfl, rfl⟩ rfl rfl (Nat.le_of_ble_eq_true rfl) (by omega) (by omega) dL_law_2016 ?_
  refine z_iload 1 hc dL_law_2019 rfl ?_
  obtain ⟨⟨hz9, he9⟩, h⟩ := z_g_some h
  refine z_icmp_eq (X := some ()) (Y := none) (o := ()) (tgt := 2026) hc dL_law_2021 (by decide) (by rw [z_g_pos hz9, if_pos he9]) (fun _ _ => ?_) (fun _ h9 => nomatch h9)
  refine z_iload 1 hc dL_law_2026 rfl ?_
  obtain ⟨hv9, h⟩ := z_g_some h
  have h := Option.some.inj h
  subst h
  refine z_if_ne (X := some ()) (Y := some ()) (o := ()) (tgt := 2043) hc dL_law_2028 (by decide) (by rw [z_g_pos hz9.2]; split <;> rfl) (fun e9 _ => ?_) (fun _ _ => ?_)
  · refine z_aload_n (i := 3) 5 hc dL_law_2031 rfl rfl ?_
    refine z_iconst hc dL_law_2032 ?_
    refine z_lald (kI := 199) (nI9 := 1) (X := some ()) (o := ()) hc tT_199 (by decide) rfl rfl (by decide) dL_law_2033 (z_g_pos (by decide)) (fun _ _ => ?_)
    refine z_iload 0 hc dL_law_2034 rfl ?_
    refine z_i2lc hc dL_law_2036 (hv9 e9).1 ?_
    refine z_lcmp_eq (X := some ()) (Y := none) (o := ()) (tgt := 2043) hc dL_law_2037 dL_law_2038 (by decide) (by rw [z_g_pos ⟨(hv9 e9).2.1, (hv9 e9).2.2.1⟩, if_pos (hv9 e9).2.2.2]) (fun _ _ => ?_) (fun _ h9 => nomatch h9)
    refine z_goto (tgt := 2158) hc dL_law_2043 (by decide) ?_
    refine z_sub [(0, .ref b), (1, .ref (a 0)), (2, .ref (a 168)), (3, .ref (a 199)), (4, .int (zI i))] [2, 3, 4, 5, 6] rfl ?_
    exact kk
  · refine z_goto (tgt := 2158) hc dL_law_2043 (by decide) ?_
    refine z_sub [(0, .ref b), (1, .ref (a 0)), (2, .ref (a 168)), (3, .ref (a 199)), (4, .int (zI i))] [2, 3, 4, 5, 6] rfl ?_
    exact kk
def JL_27 (f : Int → Int) (i : Int) (st : z_St) : Option z_St :=
  z_b (J_L_errors (f (i + 1)) st) fun r =>
  z_b (J_X12_errors (f (i + 1)) r.2) fun q =>
  z_b (J_X12_thrown q.2) fun t =>
  z_g ((z32 t ∧ z32 r.1) ∧ t = r.1) <|
  z_g (r.1 = 0 → z32 q.1 ∧ z64 (q.2 199 0) ∧ z64 q.1 ∧ q.2 199 0 = q.1) <|
  some q.2
set_option maxRecDepth 100000 in
set_option maxHeartbeats 4000000 in
theorem wl_27 {κ : zK} {a : Nat → Nat} {f : Int → Int} {i : Int} {n b cells slots lam mc ms : Nat} {st o : z_St} (hc : z_C κ RL cL_law 8 lam mc ms) (hl9 : 30 ≤ lam) (hap : z_AP κ a z_N) (hX : z_SX κ b n f) (hi : 0 ≤ i ∧ i + 5 ≤ n) (h1 : cells + 1 ≤ mc) (h2 : slots + 6 ≤ ms) (h : JL_27 f i st = some o) (kk : z_V κ z_T z_N a (cells + 1) (slots + 6) 2158 [(0, .ref b), (1, .ref (a 0)), (2, .ref (a 168)), (3, .ref (a 199)), (4, .int (zI i))] [] o) : z_V κ z_T z_N a cells slots 2046 [(0, .ref b), (1, .ref (a 0)), (2, .ref (a 168)), (3, .ref (a 199)), (4, .int (zI i))] [] st := by
  have hn9 := z_SXn hX
  refine z_aload_n (i := 1) 1 hc dL_law_2046 rfl rfl ?_
  refine z_aload_n (i := 0) 0 hc dL_law_2047 rfl rfl ?_
  refine z_iload 4 hc dL_law_2048 rfl ?_
  refine z_iconst hc dL_law_2050 ?_
  refine z_iadd hc dL_law_2051 ?_
  refine z_sld hX hc dL_law_2052 (by omega) ?_
  refine z_aload_n (i := 3) 3 hc dL_law_2053 rfl rfl ?_
  unfold JL_27 at h
  obtain ⟨r, hr, h⟩ := z_b_some h
  refine z_callW (np := 3) [.ref (a 0), .int (zI (f (i + 1))), .ref (a 199)] hc hap kL_errors ml_RL_214 (z_t5 59 rfl rfl) (z_t1 0 rfl rfl) (by decide +kernel) (by decide) (fun l hl => c_L_errors hl hr) (by omega) rfl rfl (Nat.le_of_ble_eq_true rfl) h1 h2 dL_law_2054 ?_
  refine z_istore [(5, .int (zI r.1)), (0, .ref b), (1, .ref (a 0)), (2, .ref (a 168)), (3, .ref (a 199)), (4, .int (zI i))] hc dL_law_2057 (by decide) rfl ?_
  refine z_aload_n (i := 2) 3 hc dL_law_2059 rfl rfl ?_
  refine z_aload_n (i := 0) 1 hc dL_law_2060 rfl rfl ?_
  refine z_iload 5 hc dL_law_2061 rfl ?_
  refine z_iconst hc dL_law_2063 ?_
  refine z_iadd hc dL_law_2064 ?_
  refine z_sld hX hc dL_law_2065 (by omega) ?_
  obtain ⟨q, hq, h⟩ := z_b_some h
  refine z_callVI [.int (zI (f (i + 1)))] hc hap o_X12_errors ml_RL_216 (fun l hl => c_X12_errors hl hq) (by omega) tT_168 (by decide) ⟨_, rfl, rfl⟩ rfl rfl (Nat.le_of_ble_eq_true rfl) (by omega) (by omega) dL_law_2066 ?_
  refine z_istore [(6, .int (zI q.1)), (5, .int (zI r.1)), (0, .ref b), (1, .ref (a 0)), (2, .ref (a 168)), (3, .ref (a 199)), (4, .int (zI i))] hc dL_law_2069 (by decide) rfl ?_
  refine z_aload_n (i := 2) 4 hc dL_law_2071 rfl rfl ?_
  obtain ⟨t, ht, h⟩ := z_b_some h
  refine z_callVI [] hc hap o_X12_thrown ml_RL_121 (fun l hl => c_X12_thrown hl ht) (by omega) tT_168 (by decide) ⟨_, rfl, rfl⟩ rfl rfl (Nat.le_of_ble_eq_true rfl) (by omega) (by omega) dL_law_2072 ?_
  refine z_iload 1 hc dL_law_2075 rfl ?_
  obtain ⟨⟨hz9, he9⟩, h⟩ := z_g_some h
  refine z_icmp_eq (X := some ()) (Y := none) (o := ()) (tgt := 2082) hc dL_law_2077 (by decide) (by rw [z_g_pos hz9, if_pos he9]) (fun _ _ => ?_) (fun _ h9 => nomatch h9)
  refine z_iload 1 hc dL_law_2082 rfl ?_
  obtain ⟨hv9, h⟩ := z_g_some h
  have h := Option.some.inj h
  subst h
  refine z_if_ne (X := some ()) (Y := some ()) (o := ()) (tgt := 2099) hc dL_law_2084 (by decide) (by rw [z_g_pos hz9.2]; split <;> rfl) (fun e9 _ => ?_) (fun _ _ => ?_)
  · refine z_aload_n (i := 3) 5 hc dL_law_2087 rfl rfl ?_
    refine z_iconst hc dL_law_2088 ?_
    refine z_lald (kI := 199) (nI9 := 1) (X := some ()) (o := ()) hc tT_199 (by decide) rfl rfl (by decide) dL_law_2089 (z_g_pos (by decide)) (fun _ _ => ?_)
    refine z_iload 0 hc dL_law_2090 rfl ?_
    refine z_i2lc hc dL_law_2092 (hv9 e9).1 ?_
    refine z_lcmp_eq (X := some ()) (Y := none) (o := ()) (tgt := 2099) hc dL_law_2093 dL_law_2094 (by decide) (by rw [z_g_pos ⟨(hv9 e9).2.1, (hv9 e9).2.2.1⟩, if_pos (hv9 e9).2.2.2]) (fun _ _ => ?_) (fun _ h9 => nomatch h9)
    refine z_goto (tgt := 2158) hc dL_law_2099 (by decide) ?_
    refine z_sub [(0, .ref b), (1, .ref (a 0)), (2, .ref (a 168)), (3, .ref (a 199)), (4, .int (zI i))] [2, 3, 4, 5, 6] rfl ?_
    exact kk
  · refine z_goto (tgt := 2158) hc dL_law_2099 (by decide) ?_
    refine z_sub [(0, .ref b), (1, .ref (a 0)), (2, .ref (a 168)), (3, .ref (a 199)), (4, .int (zI i))] [2, 3, 4, 5, 6] rfl ?_
    exact kk
def JL_28 (f : Int → Int) (i : Int) (st : z_St) : Option z_St :=
  z_b (J_L_sum (f (i + 1)) st) fun r =>
  z_b (J_X12_sum (f (i + 1)) r.2) fun q =>
  z_b (J_X12_thrown q.2) fun t =>
  z_g ((z32 t ∧ z32 r.1) ∧ t = r.1) <|
  z_g (r.1 = 0 → z32 q.1 ∧ z64 (q.2 199 0) ∧ z64 q.1 ∧ q.2 199 0 = q.1) <|
  some q.2
set_option maxRecDepth 100000 in
set_option maxHeartbeats 4000000 in
theorem wl_28 {κ : zK} {a : Nat → Nat} {f : Int → Int} {i : Int} {n b cells slots lam mc ms : Nat} {st o : z_St} (hc : z_C κ RL cL_law 8 lam mc ms) (hl9 : 30 ≤ lam) (hap : z_AP κ a z_N) (hX : z_SX κ b n f) (hi : 0 ≤ i ∧ i + 5 ≤ n) (h1 : cells + 1 ≤ mc) (h2 : slots + 6 ≤ ms) (h : JL_28 f i st = some o) (kk : z_V κ z_T z_N a (cells + 1) (slots + 6) 2158 [(0, .ref b), (1, .ref (a 0)), (2, .ref (a 168)), (3, .ref (a 199)), (4, .int (zI i))] [] o) : z_V κ z_T z_N a cells slots 2102 [(0, .ref b), (1, .ref (a 0)), (2, .ref (a 168)), (3, .ref (a 199)), (4, .int (zI i))] [] st := by
  have hn9 := z_SXn hX
  refine z_aload_n (i := 1) 1 hc dL_law_2102 rfl rfl ?_
  refine z_aload_n (i := 0) 0 hc dL_law_2103 rfl rfl ?_
  refine z_iload 4 hc dL_law_2104 rfl ?_
  refine z_iconst hc dL_law_2106 ?_
  refine z_iadd hc dL_law_2107 ?_
  refine z_sld hX hc dL_law_2108 (by omega) ?_
  refine z_aload_n (i := 3) 3 hc dL_law_2109 rfl rfl ?_
  unfold JL_28 at h
  obtain ⟨r, hr, h⟩ := z_b_some h
  refine z_callW (np := 3) [.ref (a 0), .int (zI (f (i + 1))), .ref (a 199)] hc hap kL_sum ml_RL_217 (z_t5 75 rfl rfl) (z_t1 0 rfl rfl) (by decide +kernel) (by decide) (fun l hl => c_L_sum hl hr) (by omega) rfl rfl (Nat.le_of_ble_eq_true rfl) h1 h2 dL_law_2110 ?_
  refine z_istore [(5, .int (zI r.1)), (0, .ref b), (1, .ref (a 0)), (2, .ref (a 168)), (3, .ref (a 199)), (4, .int (zI i))] hc dL_law_2113 (by decide) rfl ?_
  refine z_aload_n (i := 2) 3 hc dL_law_2115 rfl rfl ?_
  refine z_aload_n (i := 0) 1 hc dL_law_2116 rfl rfl ?_
  refine z_iload 5 hc dL_law_2117 rfl ?_
  refine z_iconst hc dL_law_2119 ?_
  refine z_iadd hc dL_law_2120 ?_
  refine z_sld hX hc dL_law_2121 (by omega) ?_
  obtain ⟨q, hq, h⟩ := z_b_some h
  refine z_callVI [.int (zI (f (i + 1)))] hc hap o_X12_sum ml_RL_219 (fun l hl => c_X12_sum hl hq) (by omega) tT_168 (by decide) ⟨_, rfl, rfl⟩ rfl rfl (Nat.le_of_ble_eq_true rfl) (by omega) (by omega) dL_law_2122 ?_
  refine z_istore [(6, .int (zI q.1)), (5, .int (zI r.1)), (0, .ref b), (1, .ref (a 0)), (2, .ref (a 168)), (3, .ref (a 199)), (4, .int (zI i))] hc dL_law_2125 (by decide) rfl ?_
  refine z_aload_n (i := 2) 4 hc dL_law_2127 rfl rfl ?_
  obtain ⟨t, ht, h⟩ := z_b_some h
  refine z_callVI [] hc hap o_X12_thrown ml_RL_121 (fun l hl => c_X12_thrown hl ht) (by omega) tT_168 (by decide) ⟨_, rfl, rfl⟩ rfl rfl (Nat.le_of_ble_eq_true rfl) (by omega) (by omega) dL_law_2128 ?_
  refine z_iload 1 hc dL_law_2131 rfl ?_
  obtain ⟨⟨hz9, he9⟩, h⟩ := z_g_some h
  refine z_icmp_eq (X := some ()) (Y := none) (o := ()) (tgt := 2138) hc dL_law_2133 (by decide) (by rw [z_g_pos hz9, if_pos he9]) (fun _ _ => ?_) (fun _ h9 => nomatch h9)
  refine z_iload 1 hc dL_law_2138 rfl ?_
  obtain ⟨hv9, h⟩ := z_g_some h
  have h := Option.some.inj h
  subst h
  refine z_if_ne (X := some ()) (Y := some ()) (o := ()) (tgt := 2155) hc dL_law_2140 (by decide) (by rw [z_g_pos hz9.2]; split <;> rfl) (fun e9 _ => ?_) (fun _ _ => ?_)
  · refine z_aload_n (i := 3) 5 hc dL_law_2143 rfl rfl ?_
    refine z_iconst hc dL_law_2144 ?_
    refine z_lald (kI := 199) (nI9 := 1) (X := some ()) (o := ()) hc tT_199 (by decide) rfl rfl (by decide) dL_law_2145 (z_g_pos (by decide)) (fun _ _ => ?_)
    refine z_iload 0 hc dL_law_2146 rfl ?_
    refine z_i2lc hc dL_law_2148 (hv9 e9).1 ?_
    refine z_lcmp_eq (X := some ()) (Y := none) (o := ()) (tgt := 2155) hc dL_law_2149 dL_law_2150 (by decide) (by rw [z_g_pos ⟨(hv9 e9).2.1, (hv9 e9).2.2.1⟩, if_pos (hv9 e9).2.2.2]) (fun _ _ => ?_) (fun _ h9 => nomatch h9)
    refine z_goto (tgt := 2158) hc dL_law_2155 (by decide) ?_
    refine z_sub [(0, .ref b), (1, .ref (a 0)), (2, .ref (a 168)), (3, .ref (a 199)), (4, .int (zI i))] [2, 3, 4, 5, 6] rfl ?_
    exact kk
  · refine z_goto (tgt := 2158) hc dL_law_2155 (by decide) ?_
    refine z_sub [(0, .ref b), (1, .ref (a 0)), (2, .ref (a 168)), (3, .ref (a 199)), (4, .int (zI i))] [2, 3, 4, 5, 6] rfl ?_
    exact kk
def JL_step (f : Int → Int) (i : Int) (st : z_St) : Option z_St := z_let (z_iand (f i) 31) fun t9 => (if t9 = 0 then JL_0 f i st else if t9 = 1 then JL_1 f i st else if t9 = 2 then JL_2 f i st else if t9 = 3 then JL_3 f i st else if t9 = 4 then JL_4 f i st else if t9 = 5 then JL_5 f i st else if t9 = 6 then JL_6 f i st else if t9 = 7 then JL_7 f i st else if t9 = 8 then JL_8 f i st else if t9 = 9 then JL_9 f i st else if t9 = 10 then JL_10 f i st else if t9 = 11 then JL_11 f i st else if t9 = 12 then JL_12 f i st else if t9 = 13 then JL_13 f i st else if t9 = 14 then JL_14 f i st else if t9 = 15 then JL_15 f i st else if t9 = 16 then JL_16 f i st else if t9 = 17 then JL_17 f i st else if t9 = 18 then JL_18 f i st else if t9 = 19 then JL_19 f i st else if t9 = 20 then JL_20 f i st else if t9 = 21 then JL_21 f i st else if t9 = 22 then JL_22 f i st else if t9 = 23 then JL_23 f i st else if t9 = 24 then JL_24 f i st else if t9 = 25 then JL_25 f i st else if t9 = 26 then JL_26 f i st else if t9 = 27 then JL_27 f i st else if t9 = 28 then JL_28 f i st else some st)
set_option maxRecDepth 100000 in
set_option maxHeartbeats 4000000 in
theorem wl_step {κ : zK} {a : Nat → Nat} {f : Int → Int} {i : Int} {n b cells slots lam mc ms : Nat} {st o : z_St} (hc : z_C κ RL cL_law 8 lam mc ms) (hl9 : 30 ≤ lam) (hap : z_AP κ a z_N) (hX : z_SX κ b n f) (hi : 0 ≤ i ∧ i + 5 ≤ n) (h1 : cells + 1 ≤ mc) (h2 : slots + 6 ≤ ms) (h : JL_step f i st = some o) (kk : z_V κ z_T z_N a (cells + 1) (slots + 6) 2158 [(0, .ref b), (1, .ref (a 0)), (2, .ref (a 168)), (3, .ref (a 199)), (4, .int (zI i))] [] o) : z_V κ z_T z_N a cells slots 32 [(0, .ref b), (1, .ref (a 0)), (2, .ref (a 168)), (3, .ref (a 199)), (4, .int (zI i))] [] st := by
  have hn9 := z_SXn hX
  unfold JL_step z_let at h
  refine z_aload_n (i := 0) 0 hc dL_law_32 rfl rfl ?_
  refine z_iload 4 hc dL_law_33 rfl ?_
  refine z_sld hX hc dL_law_35 (by omega) ?_
  refine z_bipush hc dL_law_36 rfl ?_
  refine z_iand_r hc dL_law_38 ?_
  have ht9 : z32 (z_iand (f i) 31) := z32_of _
  generalize z_iand (f i) 31 = t9 at h ht9 ⊢
  dsimp only at h
  by_cases e0 : t9 = 0
  · rw [if_pos e0] at h
    refine z_swIn (tgt := 168) hc ht9 dL_law_39 (by omega) (by omega) (by rw [e0]; rfl) (by decide) ?_
    exact wl_0 hc hl9 hap hX hi h1 h2 h kk
  rw [if_neg e0] at h
  by_cases e1 : t9 = 1
  · rw [if_pos e1] at h
    refine z_swIn (tgt := 248) hc ht9 dL_law_39 (by omega) (by omega) (by rw [e1]; rfl) (by decide) ?_
    exact wl_1 hc hl9 hap hX hi h1 h2 h kk
  rw [if_neg e1] at h
  by_cases e2 : t9 = 2
  · rw [if_pos e2] at h
    refine z_swIn (tgt := 261) hc ht9 dL_law_39 (by omega) (by omega) (by rw [e2]; rfl) (by decide) ?_
    exact wl_2 hc hl9 hap hX hi h1 h2 h kk
  rw [if_neg e2] at h
  by_cases e3 : t9 = 3
  · rw [if_pos e3] at h
    refine z_swIn (tgt := 317) hc ht9 dL_law_39 (by omega) (by omega) (by rw [e3]; rfl) (by decide) ?_
    exact wl_3 hc hl9 hap hX hi h1 h2 h kk
  rw [if_neg e3] at h
  by_cases e4 : t9 = 4
  · rw [if_pos e4] at h
    refine z_swIn (tgt := 397) hc ht9 dL_law_39 (by omega) (by omega) (by rw [e4]; rfl) (by decide) ?_
    exact wl_4 hc hl9 hap hX hi h1 h2 h kk
  rw [if_neg e4] at h
  by_cases e5 : t9 = 5
  · rw [if_pos e5] at h
    refine z_swIn (tgt := 465) hc ht9 dL_law_39 (by omega) (by omega) (by rw [e5]; rfl) (by decide) ?_
    exact wl_5 hc hl9 hap hX hi h1 h2 h kk
  rw [if_neg e5] at h
  by_cases e6 : t9 = 6
  · rw [if_pos e6] at h
    refine z_swIn (tgt := 508) hc ht9 dL_law_39 (by omega) (by omega) (by rw [e6]; rfl) (by decide) ?_
    exact wl_6 hc hl9 hap hX hi h1 h2 h kk
  rw [if_neg e6] at h
  by_cases e7 : t9 = 7
  · rw [if_pos e7] at h
    refine z_swIn (tgt := 600) hc ht9 dL_law_39 (by omega) (by omega) (by rw [e7]; rfl) (by decide) ?_
    exact wl_7 hc hl9 hap hX hi h1 h2 h kk
  rw [if_neg e7] at h
  by_cases e8 : t9 = 8
  · rw [if_pos e8] at h
    refine z_swIn (tgt := 692) hc ht9 dL_law_39 (by omega) (by omega) (by rw [e8]; rfl) (by decide) ?_
    exact wl_8 hc hl9 hap hX hi h1 h2 h kk
  rw [if_neg e8] at h
  by_cases e9 : t9 = 9
  · rw [if_pos e9] at h
    refine z_swIn (tgt := 750) hc ht9 dL_law_39 (by omega) (by omega) (by rw [e9]; rfl) (by decide) ?_
    exact wl_9 hc hl9 hap hX hi h1 h2 h kk
  rw [if_neg e9] at h
  by_cases e10 : t9 = 10
  · rw [if_pos e10] at h
    refine z_swIn (tgt := 806) hc ht9 dL_law_39 (by omega) (by omega) (by rw [e10]; rfl) (by decide) ?_
    exact wl_10 hc hl9 hap hX hi h1 h2 h kk
  rw [if_neg e10] at h
  by_cases e11 : t9 = 11
  · rw [if_pos e11] at h
    refine z_swIn (tgt := 874) hc ht9 dL_law_39 (by omega) (by omega) (by rw [e11]; rfl) (by decide) ?_
    exact wl_11 hc hl9 hap hX hi h1 h2 h kk
  rw [if_neg e11] at h
  by_cases e12 : t9 = 12
  · rw [if_pos e12] at h
    refine z_swIn (tgt := 954) hc ht9 dL_law_39 (by omega) (by omega) (by rw [e12]; rfl) (by decide) ?_
    exact wl_12 hc hl9 hap hX hi h1 h2 h kk
  rw [if_neg e12] at h
  by_cases e13 : t9 = 13
  · rw [if_pos e13] at h
    refine z_swIn (tgt := 1033) hc ht9 dL_law_39 (by omega) (by omega) (by rw [e13]; rfl) (by decide) ?_
    exact wl_13 hc hl9 hap hX hi h1 h2 h kk
  rw [if_neg e13] at h
  by_cases e14 : t9 = 14
  · rw [if_pos e14] at h
    refine z_swIn (tgt := 1112) hc ht9 dL_law_39 (by omega) (by omega) (by rw [e14]; rfl) (by decide) ?_
    exact wl_14 hc hl9 hap hX hi h1 h2 h kk
  rw [if_neg e14] at h
  by_cases e15 : t9 = 15
  · rw [if_pos e15] at h
    refine z_swIn (tgt := 1168) hc ht9 dL_law_39 (by omega) (by omega) (by rw [e15]; rfl) (by decide) ?_
    exact wl_15 hc hl9 hap hX hi h1 h2 h kk
  rw [if_neg e15] at h
  by_cases e16 : t9 = 16
  · rw [if_pos e16] at h
    refine z_swIn (tgt := 1224) hc ht9 dL_law_39 (by omega) (by omega) (by rw [e16]; rfl) (by decide) ?_
    exact wl_16 hc hl9 hap hX hi h1 h2 h kk
  rw [if_neg e16] at h
  by_cases e17 : t9 = 17
  · rw [if_pos e17] at h
    refine z_swIn (tgt := 1280) hc ht9 dL_law_39 (by omega) (by omega) (by rw [e17]; rfl) (by decide) ?_
    exact wl_17 hc hl9 hap hX hi h1 h2 h kk
  rw [if_neg e17] at h
  by_cases e18 : t9 = 18
  · rw [if_pos e18] at h
    refine z_swIn (tgt := 1347) hc ht9 dL_law_39 (by omega) (by omega) (by rw [e18]; rfl) (by decide) ?_
    exact wl_18 hc hl9 hap hX hi h1 h2 h kk
  rw [if_neg e18] at h
  by_cases e19 : t9 = 19
  · rw [if_pos e19] at h
    refine z_swIn (tgt := 1402) hc ht9 dL_law_39 (by omega) (by omega) (by rw [e19]; rfl) (by decide) ?_
    exact wl_19 hc hl9 hap hX hi h1 h2 h kk
  rw [if_neg e19] at h
  by_cases e20 : t9 = 20
  · rw [if_pos e20] at h
    refine z_swIn (tgt := 1457) hc ht9 dL_law_39 (by omega) (by omega) (by rw [e20]; rfl) (by decide) ?_
    exact wl_20 hc hl9 hap hX hi h1 h2 h kk
  rw [if_neg e20] at h
  by_cases e21 : t9 = 21
  · rw [if_pos e21] at h
    refine z_swIn (tgt := 1513) hc ht9 dL_law_39 (by omega) (by omega) (by rw [e21]; rfl) (by decide) ?_
    exact wl_21 hc hl9 hap hX hi h1 h2 h kk
  rw [if_neg e21] at h
  by_cases e22 : t9 = 22
  · rw [if_pos e22] at h
    refine z_swIn (tgt := 1624) hc ht9 dL_law_39 (by omega) (by omega) (by rw [e22]; rfl) (by decide) ?_
    exact wl_22 hc hl9 hap hX hi h1 h2 h kk
  rw [if_neg e22] at h
  by_cases e23 : t9 = 23
  · rw [if_pos e23] at h
    refine z_swIn (tgt := 1712) hc ht9 dL_law_39 (by omega) (by omega) (by rw [e23]; rfl) (by decide) ?_
    exact wl_23 hc hl9 hap hX hi h1 h2 h kk
  rw [if_neg e23] at h
  by_cases e24 : t9 = 24
  · rw [if_pos e24] at h
    refine z_swIn (tgt := 1823) hc ht9 dL_law_39 (by omega) (by omega) (by rw [e24]; rfl) (by decide) ?_
    exact wl_24 hc hl9 hap hX hi h1 h2 h kk
  rw [if_neg e24] at h
  by_cases e25 : t9 = 25
  · rw [if_pos e25] at h
    refine z_swIn (tgt := 1878) hc ht9 dL_law_39 (by omega) (by omega) (by rw [e25]; rfl) (by decide) ?_
    exact wl_25 hc hl9 hap hX hi h1 h2 h kk
  rw [if_neg e25] at h
  by_cases e26 : t9 = 26
  · rw [if_pos e26] at h
    refine z_swIn (tgt := 1978) hc ht9 dL_law_39 (by omega) (by omega) (by rw [e26]; rfl) (by decide) ?_
    exact wl_26 hc hl9 hap hX hi h1 h2 h kk
  rw [if_neg e26] at h
  by_cases e27 : t9 = 27
  · rw [if_pos e27] at h
    refine z_swIn (tgt := 2046) hc ht9 dL_law_39 (by omega) (by omega) (by rw [e27]; rfl) (by decide) ?_
    exact wl_27 hc hl9 hap hX hi h1 h2 h kk
  rw [if_neg e27] at h
  by_cases e28 : t9 = 28
  · rw [if_pos e28] at h
    refine z_swIn (tgt := 2102) hc ht9 dL_law_39 (by omega) (by omega) (by rw [e28]; rfl) (by decide) ?_
    exact wl_28 hc hl9 hap hX hi h1 h2 h kk
  rw [if_neg e28] at h
  refine z_swOut (tgt := 2158) hc ht9 dL_law_39 (by omega) (by decide) ?_
  have h := Option.some.inj h
  subst h
  exact z_wide (by omega) (by omega) kk
def JL_run (f : Int → Int) (n : Int) : Nat → Int → z_St → Option z_St
  | 0, i, st => if n - 5 < i then some st else none
  | k + 1, i, st => if n - 5 < i then some st else z_b (JL_step f i st) (JL_run f n k (i + 5))
set_option maxRecDepth 100000 in
set_option maxHeartbeats 4000000 in
theorem wl_run {κ : zK} {a : Nat → Nat} {f : Int → Int} {n b lam mc ms : Nat} (hc : z_C κ RL cL_law 8 lam mc ms) (hl9 : 30 ≤ lam) (hap : z_AP κ a z_N) (hX : z_SX κ b n f) {o : z_St} (kk : ∀ (i : Int) (cells slots : Nat), cells ≤ mc → slots ≤ ms → z_V κ z_T z_N a cells slots 2164 [(0, .ref b), (1, .ref (a 0)), (2, .ref (a 168)), (3, .ref (a 199)), (4, .int (zI i))] [] o) : ∀ (k : Nat) (i : Int) (cells slots : Nat) (st : z_St), 0 ≤ i → i ≤ 2600 → cells + k ≤ mc → slots + 6 * k ≤ ms → JL_run f n k i st = some o → z_V κ z_T z_N a cells slots 23 [(0, .ref b), (1, .ref (a 0)), (2, .ref (a 168)), (3, .ref (a 199)), (4, .int (zI i))] [] st := by
  have hn9 := z_SXn hX
  have hd : ∀ (i : Int) (cells slots : Nat) (st : z_St), 0 ≤ i → i ≤ 2600 → (n - 5 < i → z_V κ z_T z_N a cells slots 2164 [(0, .ref b), (1, .ref (a 0)), (2, .ref (a 168)), (3, .ref (a 199)), (4, .int (zI i))] [] st) → (¬ (n - 5 < i) → z_V κ z_T z_N a cells slots 32 [(0, .ref b), (1, .ref (a 0)), (2, .ref (a 168)), (3, .ref (a 199)), (4, .int (zI i))] [] st) → z_V κ z_T z_N a cells slots 23 [(0, .ref b), (1, .ref (a 0)), (2, .ref (a 168)), (3, .ref (a 199)), (4, .int (zI i))] [] st := by
    intro i cells slots st hi hi2 q1 q2
    refine z_iload 4 hc dL_law_23 rfl ?_
    refine z_aload_n (i := 0) 0 hc dL_law_25 rfl rfl ?_
    refine z_slen hX hc dL_law_26 ?_
    refine z_iconst hc dL_law_27 ?_
    refine z_isub hc dL_law_28 ?_
    refine z_icmp_gt (X := some ()) (Y := some ()) (o := ()) (tgt := 2164) hc dL_law_29 (by decide) (by rw [z_g_pos ⟨⟨by omega, by omega⟩, ⟨by omega, by omega⟩⟩]; split <;> rfl) (fun e9 _ => q1 e9) (fun e9 _ => q2 e9)
  intro k
  induction k with
  | zero =>
    intro i cells slots st hi hi2 h1 h2 h
    unfold JL_run at h
    by_cases e : (n : Int) - 5 < i
    · rw [if_pos e] at h
      have h := Option.some.inj h
      subst h
      exact hd i cells slots _ hi hi2 (fun _ => kk i cells slots h1 (by omega)) (fun q => absurd e q)
    · rw [if_neg e] at h; cases h
  | succ k ih =>
    intro i cells slots st hi hi2 h1 h2 h
    unfold JL_run at h
    by_cases e : (n : Int) - 5 < i
    · rw [if_pos e] at h
      have h := Option.some.inj h
      subst h
      exact hd i cells slots _ hi hi2 (fun _ => kk i cells slots (by omega) (by omega)) (fun q => absurd e q)
    · rw [if_neg e] at h
      obtain ⟨st2, hs, h⟩ := z_b_some h
      refine hd i cells slots _ hi hi2 (fun q => absurd q e) (fun _ => ?_)
      refine wl_step hc hl9 hap hX ⟨hi, by omega⟩ (by omega) (by omega) hs ?_
      refine z_iinc [(4, .int (zI (i + 5))), (0, .ref b), (1, .ref (a 0)), (2, .ref (a 168)), (3, .ref (a 199))] 4 hc dL_law_2158 rfl (by decide) rfl ?_
      refine z_goto (tgt := 23) hc dL_law_2161 (by decide) ?_
      refine z_sub [(0, .ref b), (1, .ref (a 0)), (2, .ref (a 168)), (3, .ref (a 199)), (4, .int (zI (i + 5)))] [1, 2, 3, 4, 0] rfl ?_
      exact ih (i + 5) (cells + 1) (slots + 6) st2 (by omega) (by omega) (by omega) (by omega) h
