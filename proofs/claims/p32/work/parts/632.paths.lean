-- THE BEST PATH
theorem q_tv_0 {g : z_St} {d : Int → Int} {m k i : Nat} : q_tv g d m k i 0 = k := rfl
theorem q_tv_1 {g : z_St} {d : Int → Int} {m k i : Nat} : q_tv g d m k i 1 = d k := rfl
theorem q_tv_2 {g : z_St} {d : Int → Int} {m k i : Nat} : q_tv g d m k i 2 = q_chs g (d k) (q_Tk g d m k) (q_Tk g d m (k + 1)) := rfl
theorem q_tv_3 {g : z_St} {d : Int → Int} {m k i : Nat} : q_tv g d m k i 3 = (q_ks g (2 * d k + q_chs g (d k) (q_Tk g d m k) (q_Tk g d m (k + 1))) (q_Tk g d m (k + 1)) (q_Tk g d m (k + 1) - q_Tk g d m k) i : Nat) := rfl
theorem q_tv_5 {g : z_St} {d : Int → Int} {m k i : Nat} : q_tv g d m k i 5 = q_form g (2 * q_tv g d m k i 1 + q_tv g d m k i 2) (q_tv g d m k i 3) := rfl
theorem q_tv_3s {g : z_St} {d : Int → Int} {m k i : Nat} : q_tv g d m k (i + 1) 3 = q_tv g d m k i 3 ∨ q_tv g d m k (i + 1) 3 = q_tv g d m k i 3 + 1 := by
  rw [q_tv_3, q_tv_3]
  generalize q_chs g (d k) (q_Tk g d m k) (q_Tk g d m (k + 1)) = ch
  generalize (q_Tk g d m (k + 1) - q_Tk g d m k) = D
  have e : q_ks g (2 * d k + ch) (q_Tk g d m (k + 1)) D (i + 1) = q_ks g (2 * d k + ch) (q_Tk g d m (k + 1)) D i + (if q_le2 (q_Tl g (2 * d k + ch) (q_Tk g d m (k + 1)) ((g 179 (2 * d k + ch)).toNat - (q_ks g (2 * d k + ch) (q_Tk g d m (k + 1)) D i + 1)) (D - i - 1)) (q_Tl g (2 * d k + ch) (q_Tk g d m (k + 1)) ((g 179 (2 * d k + ch)).toNat - q_ks g (2 * d k + ch) (q_Tk g d m (k + 1)) D i) (D - i - 1)) = true then 1 else 0) := rfl
  rw [e]
  split <;> omega
theorem q_tv_30 {g : z_St} {d : Int → Int} {m k : Nat} : q_tv g d m k 0 3 = 0 := by rw [q_tv_3]; rfl
/-- where a frame lies -/
def q_fa (g : z_St) (n x k i : Nat) : Prop := k < (q_many n).toNat ∧ x = q_Tk g (q_dig n) (q_many n).toNat k + i ∧ q_Tk g (q_dig n) (q_many n).toNat k + i < q_Tk g (q_dig n) (q_many n).toNat (k + 1)
theorem q_fa_ex {g : z_St} (hB : q_RB g) {b n : Nat} (hb : q_bestRow g b n) {x : Nat} (hx : x < g 168 2) : ∃ k i, q_fa g n x k i := by
  obtain ⟨k, i, a, e, c⟩ := q_path_at hB hb (x := x) (by omega)
  exact ⟨k, i, a, by omega, c⟩
theorem q_fa_fc {g : z_St} (hB : q_RB g) {b n x k i : Nat} (hb : q_bestRow g b n) (h : q_fa g n x k i) : q_fc9 g (q_tv g (q_dig n) (q_many n).toNat k i 1) (q_tv g (q_dig n) (q_many n).toNat k i 2) (q_tv g (q_dig n) (q_many n).toNat k i 3) := by
  obtain ⟨hk, _, hi⟩ := h
  have hf1 := hB.1.1
  have hw1 := hB.2.2.2.2.1.1
  obtain ⟨hrow, hf0, v, hv⟩ := q_bestRow_R hB hb
  have hmb := q_many_bd n
  have hdk := hrow.2 k (by omega) (by omega)
  have hw2 := hB.2.2.2.2.1.2.1 (q_dig n k) (by omega) (by omega)
  obtain ⟨hlt1, y, hy⟩ := q_Tk_lt hv hk
  have hTk1 := (q_Tk_spec hv (k + 1) (by omega)).2
  obtain ⟨hc1, u2, hu2, _⟩ := q_chs_some hB (w := q_dig n k) (f := (q_Tk g (q_dig n) (q_many n).toNat k : Nat)) (t := (q_Tk g (q_dig n) (q_many n).toNat (k + 1) : Nat)) (by omega) hy
  have hcb := q_chs_bd (g := g) (w := q_dig n k) (f := (q_Tk g (q_dig n) (q_many n).toNat k : Nat)) (t := (q_Tk g (q_dig n) (q_many n).toNat (k + 1) : Nat))
  have hsa := q_said_of hB.2.2.2.2.1 (w := q_dig n k) (k := q_chs g (q_dig n k) (q_Tk g (q_dig n) (q_many n).toNat k : Nat) (q_Tk g (q_dig n) (q_many n).toNat (k + 1) : Nat)) (by omega)
  have hs2 := hsa.2.1
  rw [q_take_Tl (by omega), show (((q_Tk g (q_dig n) (q_many n).toNat (k + 1) : Nat) : Int) - (q_Tk g (q_dig n) (q_many n).toNat k : Nat)).toNat = q_Tk g (q_dig n) (q_many n).toNat (k + 1) - q_Tk g (q_dig n) (q_many n).toNat k by omega] at hu2
  have hks := (q_ks_spec hu2 i (by omega)).2.2 (by omega)
  rw [q_tv_1, q_tv_2, q_tv_3]
  exact ⟨hdk, ⟨hcb.1, hc1⟩, by omega, by omega⟩
theorem q_fa_next {g : z_St} (hB : q_RB g) {b n x k i k' i' : Nat} (hb : q_bestRow g b n) (h' : q_fa g n x k' i') (h : q_fa g n (x + 1) k i) : (k = k' ∧ i = i' + 1) ∨ (k = k' + 1 ∧ i = 0) := by
  obtain ⟨hk, e, hi⟩ := h
  obtain ⟨hk', e', hi'⟩ := h'
  obtain ⟨hrow, hf0, v, hv⟩ := q_bestRow_R hB hb
  have mono := q_Tk_mono hv
  rcases Nat.lt_trichotomy k k' with c | c | c
  · have := mono (k + 1) k' (by omega) (by omega); omega
  · subst c; exact Or.inl ⟨rfl, by omega⟩
  · have h1 := mono (k' + 1) k (by omega) (by omega)
    by_cases c2 : k = k' + 1
    · exact Or.inr ⟨c2, by subst c2; omega⟩
    · have h2 := (q_Tk_lt hv (k := k' + 1) (by omega)).1
      have h3 := mono (k' + 1 + 1) k (by omega) (by omega)
      omega
theorem q_fa_0 {g : z_St} {n k i : Nat} (hB : q_RB g) {b : Nat} (hb : q_bestRow g b n) (h : q_fa g n 0 k i) : k = 0 ∧ i = 0 := by
  obtain ⟨hk, e, hi⟩ := h
  obtain ⟨hrow, hf0, v, hv⟩ := q_bestRow_R hB hb
  refine ⟨?_, by omega⟩
  by_cases c : k = 0
  · exact c
  · have h1 := (q_Tk_lt hv (k := 0) (by omega)).1
    have h2 := q_Tk_mono hv (0 + 1) k (by omega) (by omega)
    omega
theorem q_fa_last {g : z_St} {n x k i : Nat} (hB : q_RB g) {b : Nat} (hb : q_bestRow g b n) (h : q_fa g n x k i) (hx : (x : Int) + 1 = g 168 2) : (k : Int) = q_many n - 1 := by
  obtain ⟨hk, e, hi⟩ := h
  have hf1 := hB.1.1
  obtain ⟨hrow, hf0, v, hv⟩ := q_bestRow_R hB hb
  have hend := q_Tk_end hf1.1 hv
  by_cases c : k + 1 = (q_many n).toNat
  · omega
  · have h1 := (q_Tk_lt hv (k := k + 1) (by omega)).1
    have h2 := q_Tk_mono hv (k + 1 + 1) (q_many n).toNat (by omega) (by omega)
    omega
theorem q_ed_self {d : Int → Int} : ∀ m : Nat, q_ed d d m m = 0 := by
  intro m
  induction m with
  | zero => rw [q_ed_0]; rfl
  | succ m ih =>
    have h1 := (q_ed_bd (d := d) (e := d) m (m + 1)).1
    have h2 := (q_ed_bd (d := d) (e := d) (m + 1) m).1
    rw [q_ed_ss, ih, if_pos rfl]
    omega
/-- the number cut down to its k-th digit -/
theorem s_paths_cut {v1 v2 v3 v5 v6 v7 w c a : Int} {n : Nat} {k : Nat} {st : z_St} (hn : 1 ≤ q_many n ∧ n ≤ 9999) (hk : (k : Int) < q_many n) : q_ok (z_iter z_F (fun q9 : (Int × Int × z_St) => J_L_paths_b194 v1 v2 v3 v5 v6 v7 (k : Int) w c a q9.1 q9.2.1 q9.2.2) ((n : Int), q_many n - 1, st)) (fun r => r = ((n : Int) / q_ten (q_many n - 1 - k), st)) := by
  have hm := q_many_bd n
  refine q_loop (fun q => ((k : Int) ≤ q.2.1 ∧ q.2.1 ≤ q_many n - 1) ∧ q.1 = (n : Int) / q_ten (q_many n - 1 - q.2.1) ∧ q.2.2 = st) (fun q => q.2.1.toNat) ⟨⟨by dsimp only; omega, Int.le_refl _⟩, ?_, rfl⟩ (by dsimp only; omega) ?_
  · dsimp only
    rw [show q_many n - 1 - (q_many n - 1) = 0 by omega]
    show (n : Int) = n / 1
    rw [Int.ediv_one]
  · rintro ⟨x, y, s⟩ ⟨i1, i2, i3⟩
    dsimp only at i1 i2 i3
    subst i3
    have hx : 0 ≤ x ∧ x ≤ 9999 := by
      rw [i2]
      have h4 : q_many n - 1 - y = 0 ∨ q_many n - 1 - y = 1 ∨ q_many n - 1 - y = 2 ∨ q_many n - 1 - y = 3 := by omega
      rcases h4 with e | e | e | e <;> rw [e]
      · show 0 ≤ (n : Int) / 1 ∧ (n : Int) / 1 ≤ 9999; omega
      · show 0 ≤ (n : Int) / 10 ∧ (n : Int) / 10 ≤ 9999; omega
      · show 0 ≤ (n : Int) / 100 ∧ (n : Int) / 100 ≤ 9999; omega
      · show 0 ≤ (n : Int) / 1000 ∧ (n : Int) / 1000 ≤ 9999; omega
    simp only [J_L_paths_b194, q_g, q_b, q_let, q_ite, q_some, z32, z64, true_or, or_true, true_and, and_true]
    refine ⟨by omega, fun hlt => ⟨by omega, ⟨⟨by omega, by omega⟩, ?_⟩, by omega⟩, fun hge => ?_⟩
    · rw [Int.tdiv_eq_ediv_of_nonneg (by omega), i2]
      have h4 : q_many n - 1 - y = 0 ∨ q_many n - 1 - y = 1 ∨ q_many n - 1 - y = 2 := by omega
      rw [show q_many n - 1 - (y + -1) = q_many n - 1 - y + 1 by omega]
      rcases h4 with e | e | e <;> rw [e]
      · show (n : Int) / 1 / 10 = n / 10; omega
      · show (n : Int) / 10 / 10 = n / 100; omega
      · show (n : Int) / 100 / 10 = n / 1000; omega
    · have e : y = k := by omega
      rw [i2, e]
def q_pI (g : z_St) (n : Nat) (q : Int × Int × Int × Int × z_St) : Prop := ∃ t : Nat, q.2.2.2.1 = t ∧ (t : Int) ≤ g 168 2 ∧ q.1 = 1 ∧ q_INV g q.2.2.2.2 ∧ ((t = 0 ∧ q.2.1 = 0 ∧ q.2.2.1 = 0) ∨ ∃ x k i, t = x + 1 ∧ q_fa g n x k i ∧ q.2.1 = (k : Int) ∧ q.2.2.1 = q_tv g (q_dig n) (q_many n).toNat k i 3)
def q_pE (g : z_St) (n : Nat) (q : Int × Int × z_St) : Prop := q.1 = 1 ∧ q.2.1 = q_many n - 1 ∧ q_INV g q.2.2
theorem s_paths_b {g : z_St} (hB : q_RB g) {b n : Nat} (hb : q_bestRow g b n) {v5 v6 : Int} {v4 v7 : Int} {st : z_St} (hI : q_pI g n (v4, v5, v6, v7, st)) : q_ok (J_L_paths_b123 (g 168 2) n (q_many n) v4 v5 v6 v7 st) (fun r => (∃ q, r = .inl q ∧ q_pI g n q ∧ q.2.2.2.1 = v7 + 1) ∨ ∃ q, r = .inr q ∧ q_pE g n q) := by
  obtain ⟨t, e1, e2, e3, e4, e5⟩ := hI
  dsimp only at e1 e3 e4 e5
  subst e1 e3
  have hf1 := hB.1.1
  have hr := q_rows_isRow hB hb.1
  have hmb := q_many_bd n
  have hr1 := hr.1
  obtain ⟨hrow, hf0, vv, hv⟩ := q_bestRow_R hB hb
  unfold J_L_paths_b123
  by_cases hlt : (t : Int) < g 168 2
  · rw [q_g, q_g, if_pos hlt, q_g, if_neg (by decide), q_g]
    refine ⟨by omega, ⟨⟨by omega, by omega⟩, by omega, by omega⟩, by decide, ⟨by omega, by omega⟩, ?_⟩
    obtain ⟨k, i, hat⟩ := q_fa_ex hB hb hlt
    obtain ⟨k1, k2, k3⟩ := hat
    have zt : z32 (t : Int) := ⟨by omega, by omega⟩
    have pth : ∀ w : Int, 0 ≤ w ∧ w ≤ 5 → ∀ s, q_INV g s → q_ok (J_L_does 23 (t : Int) w 0 0 s) (q_ans g (q_tv g (q_dig n) (q_many n).toNat k i w)) := fun w hw s hs => a_path hs zt ⟨by omega, by omega⟩ hw hb k1 (by omega) k3 (by omega)
    have bd : ∀ w : Int, 0 ≤ q_tv g (q_dig n) (q_many n).toNat k i w ∧ q_tv g (q_dig n) (q_many n).toNat k i w ≤ 5 := fun w => q_tv_32 hB hb k1 k3
    have bd1 := bd 1
    have bd2 := bd 2
    have bd3 := bd 3
    have bd5 := bd 5
    have hfc := q_fa_fc hB hb ⟨k1, k2, k3⟩
    refine k_ask (pth 0 (by decide) _ e4) (fun s1 i1 => ?_)
    rw [q_g]
    refine ⟨zt, ?_⟩
    refine k_ask (pth 1 (by decide) _ i1) (fun s2 i2 => ?_)
    rw [q_g]
    refine ⟨zt, ?_⟩
    refine k_ask (pth 2 (by decide) _ i2) (fun s3 i3 => ?_)
    rw [q_g]
    refine ⟨zt, ?_⟩
    refine k_ask (pth 3 (by decide) _ i3) (fun s4 i4 => ?_)
    rw [q_tv_0]
    dsimp only
    rw [q_b]
    refine q_mono (s_paths_cut ⟨hr1, by omega⟩ (by omega)) ?_
    rintro r rfl
    dsimp only
    have hdig : ((n : Int) / q_ten (q_many n - 1 - k)).tmod 10 - 1 = q_tv g (q_dig n) (q_many n).toNat k i 1 := by
      rw [q_tv_1]
      have h4 : q_many n - 1 - (k : Int) = 0 ∨ q_many n - 1 - (k : Int) = 1 ∨ q_many n - 1 - (k : Int) = 2 ∨ q_many n - 1 - (k : Int) = 3 := by omega
      have hnn : 0 ≤ (n : Int) / q_ten (q_many n - 1 - k) := by
        rcases h4 with e | e | e | e <;> rw [e]
        · show 0 ≤ (n : Int) / 1; omega
        · show 0 ≤ (n : Int) / 10; omega
        · show 0 ≤ (n : Int) / 100; omega
        · show 0 ≤ (n : Int) / 1000; omega
      rw [Int.tmod_eq_emod_of_nonneg hnn]
      rfl
    have hq32 : z32 ((n : Int) / q_ten (q_many n - 1 - k)) := by
      have h4 : q_many n - 1 - (k : Int) = 0 ∨ q_many n - 1 - (k : Int) = 1 ∨ q_many n - 1 - (k : Int) = 2 ∨ q_many n - 1 - (k : Int) = 3 := by omega
      rcases h4 with e | e | e | e <;> rw [e]
      · show -2147483648 ≤ (n : Int) / 1 ∧ (n : Int) / 1 ≤ 2147483647; omega
      · show -2147483648 ≤ (n : Int) / 10 ∧ (n : Int) / 10 ≤ 2147483647; omega
      · show -2147483648 ≤ (n : Int) / 100 ∧ (n : Int) / 100 ≤ 2147483647; omega
      · show -2147483648 ≤ (n : Int) / 1000 ∧ (n : Int) / 1000 ≤ 2147483647; omega
    -- the last of the round
    have fin : q_ok (J_L_paths_283 (g 168 2) n (q_many n) t k (q_tv g (q_dig n) (q_many n).toNat k i 1) (q_tv g (q_dig n) (q_many n).toNat k i 2) (q_tv g (q_dig n) (q_many n).toNat k i 3) 1 s4) (fun r => (∃ q, r = .inl q ∧ q_pI g n q ∧ q.2.2.2.1 = (t : Int) + 1) ∨ ∃ q, r = .inr q ∧ q_pE g n q) := by
      unfold J_L_paths_283
      rw [q_g]
      refine ⟨⟨by omega, by omega⟩, ?_⟩
      refine k_does (a_form i4 ⟨by omega, by omega⟩ ⟨by omega, by omega⟩ ⟨by omega, by omega⟩) (fun s5 i5 => ?_)
      rw [q_g]
      refine ⟨zt, ?_⟩
      refine k_ask (pth 5 (by decide) _ i5) (fun s6 i6 => ?_)
      dsimp only
      have ef : tv_form g (q_tv g (q_dig n) (q_many n).toNat k i 1) (q_tv g (q_dig n) (q_many n).toNat k i 2) (q_tv g (q_dig n) (q_many n).toNat k i 3) = q_tv g (q_dig n) (q_many n).toNat k i 5 := by
        unfold tv_form
        rw [if_pos hfc, q_tv_5]
      rw [ef, q_g, if_pos rfl]
      refine ⟨⟨⟨by omega, by omega⟩, by omega, by omega⟩, ?_⟩
      unfold J_L_paths_320
      rw [iand11]
      exact ⟨_, rfl, Or.inl ⟨_, rfl, ⟨t + 1, by show (t : Int) + 1 = _; omega, by omega, rfl, i6, Or.inr ⟨t, k, i, rfl, ⟨k1, k2, k3⟩, rfl, rfl⟩⟩, rfl⟩⟩
    rw [q_g, q_g, hdig, if_pos rfl]
    refine ⟨⟨hq32, by decide, by decide⟩, ⟨⟨by omega, by omega⟩, by omega, by omega⟩, ?_⟩
    have b6 : 0 ≤ v5 ∧ v5 ≤ 5 ∧ 0 ≤ v6 ∧ v6 ≤ 5 := by
      rcases e5 with ⟨_, rfl, rfl⟩ | ⟨x, k', i', _, ⟨p1, p2, p3⟩, rfl, rfl⟩
      · decide
      · have := q_tv_32 hB hb p1 p3 (c := 3)
        omega
    have cases3 : (k = v5 ∧ (q_tv g (q_dig n) (q_many n).toNat k i 3 = v6 ∨ q_tv g (q_dig n) (q_many n).toNat k i 3 = v6 + 1) ∧ (0 < (t : Int) ∨ ((k : Int) = 0 ∧ q_tv g (q_dig n) (q_many n).toNat k i 3 = 0))) ∨ ((k : Int) = v5 + 1 ∧ q_tv g (q_dig n) (q_many n).toNat k i 3 = 0 ∧ 0 < (t : Int)) := by
      rcases e5 with ⟨rfl, rfl, rfl⟩ | ⟨x, k', i', rfl, hat', rfl, rfl⟩
      · obtain ⟨rfl, rfl⟩ := q_fa_0 hB hb ⟨k1, k2, k3⟩
        exact Or.inl ⟨rfl, Or.inl q_tv_30, Or.inr ⟨rfl, q_tv_30⟩⟩
      · rcases q_fa_next hB hb hat' ⟨k1, k2, k3⟩ with ⟨rfl, rfl⟩ | ⟨rfl, rfl⟩
        · exact Or.inl ⟨rfl, q_tv_3s, Or.inl (by omega)⟩
        · exact Or.inr ⟨by omega, q_tv_30, by omega⟩
    generalize q_tv g (q_dig n) (q_many n).toNat k i 1 = W at *
    generalize q_tv g (q_dig n) (q_many n).toNat k i 2 = S at *
    generalize q_tv g (q_dig n) (q_many n).toNat k i 3 = A at *
    simp only [J_L_paths_263, J_L_paths_249, J_L_paths_278, J_L_paths_282, q_g, q_b, q_let, q_ite, q_some, z32, z64, true_or, or_true, true_and, and_true]
    (repeat' (first | omega | exact fin | exact ⟨by omega, fin⟩ | refine And.intro ?_ ?_ | intro _))
  · rw [q_g, q_g, if_neg hlt]
    refine ⟨by omega, ⟨⟨by omega, by omega⟩, by omega, by omega⟩, _, rfl, Or.inr ⟨_, rfl, rfl, ?_, e4⟩⟩
    dsimp only
    rcases e5 with ⟨rfl, _, _⟩ | ⟨x, k, i, rfl, hat, e6, e7⟩
    · omega
    · rw [e6]
      exact q_fa_last hB hb hat (by omega)
theorem s_paths {g st : z_St} (h : q_INV g st) {x1 : Int} (h1 : x1 = g 168 2) : q_ok (J_L_paths x1 st) (q_ans g 1) := by
  subst h1
  have hB := h.2.1
  have hf1 := hB.1.1
  unfold J_L_paths
  refine k_b0 h (fun v s1 i1 hv => ?_)
  rcases hv with ⟨hn, rfl⟩ | ⟨b, n, hb, rfl, hr, n1, n9⟩
  · dsimp only
    rw [q_g, if_pos (by decide)]
    refine ⟨by decide, ?_⟩
    refine k_ask (a_path_n i1 (by decide) (by decide) (by decide) hn) (fun s2 i2 => ?_)
    have end1 : ∀ V : Int, -2000 ≤ V ∧ V ≤ 0 → q_ok (J_L_paths_35 V V s2) (q_ans g 1) := fun V hV => by
      unfold J_L_paths_35
      rw [q_g, if_pos rfl]
      refine ⟨⟨⟨by omega, by omega⟩, by omega, by omega⟩, ?_⟩
      refine k_ask (d_fit_n i2 hn) (fun s3 i3 => ?_)
      dsimp only
      rw [q_g, if_pos rfl]
      refine ⟨by decide, ?_⟩
      unfold J_L_paths_59
      rw [q_g]
      exact ⟨Or.inr rfl, _, rfl, i3, rfl⟩
    dsimp only
    rw [q_g]
    refine ⟨⟨by omega, by omega⟩, ?_⟩
    by_cases c : g 168 2 = 0
    · rw [if_pos c, if_neg (by omega)]; exact end1 _ (by decide)
    · rw [if_neg c, if_pos (by omega)]; exact end1 _ (by decide)
  · have hmb := q_many_bd n
    have hr1 := hr.1
    have yn : z32 (n : Int) := ⟨by omega, by omega⟩
    have key : q_ok (J_L_paths_92 (g 168 2) n (q_many n) s1) (q_ans g 1) := by
      unfold J_L_paths_92
      rw [q_g]
      refine ⟨yn, ?_⟩
      refine k_ask (a_errors i1 yn hr hb) (fun s2 i2 => ?_)
      have e0 : q_err n n = 0 := q_ed_self _
      rw [e0]
      dsimp only
      rw [q_g, if_pos rfl]
      refine ⟨by decide, ?_⟩
      unfold J_L_paths_112
      rw [q_b]
      refine q_mono (P := q_pE g n) ?_ ?_
      · refine q_loop (q_pI g n) (fun q => (20 - q.2.2.2.1).toNat) ⟨0, rfl, hf1.1, rfl, i2, Or.inl ⟨rfl, rfl, rfl⟩⟩ (by show (20 - (0 : Int)).toNat < 1000000; decide) ?_
        rintro ⟨v4, v5, v6, v7, s⟩ hI
        have hv7 : 0 ≤ v7 ∧ v7 ≤ 16 := by
          obtain ⟨t, e1, e2, _⟩ := hI
          dsimp only at e1
          omega
        refine q_mono (s_paths_b hB hb hI) ?_
        rintro r (⟨q, rfl, p1, p2⟩ | ⟨q, rfl, p1⟩)
        · refine ⟨p1, ?_⟩
          show (20 - q.2.2.2.1).toNat < (20 - v7).toNat
          have p3 : q.2.2.2.1 = v7 + 1 := p2
          omega
        · exact p1
      · rintro ⟨v4, v5, s⟩ ⟨p1, p2, p3⟩
        dsimp only at p1 p2 p3 ⊢
        subst p1 p2
        rw [q_g, if_neg (by decide), q_g, if_pos rfl]
        refine ⟨by decide, ⟨⟨by omega, by omega⟩, by omega, by omega⟩, ?_⟩
        unfold J_L_paths_355
        rw [q_g]
        exact ⟨Or.inr rfl, _, rfl, p3, rfl⟩
    have hm : q_many n = if (n : Int) < 1 then 0 else if (n : Int) < 10 then 1 else if (n : Int) < 100 then 2 else if (n : Int) < 1000 then 3 else if (n : Int) < 10000 then 4 else 0 := rfl
    dsimp only
    rw [q_g, if_neg (by omega), q_g]
    refine ⟨yn, ⟨yn, by decide⟩, ?_⟩
    by_cases c1 : (n : Int) < 10
    · rw [if_pos c1]; rw [show q_many n = 1 by omega] at key; exact key
    · rw [if_neg c1, q_g]
      refine ⟨⟨yn, by decide⟩, ?_⟩
      by_cases c2 : (n : Int) < 100
      · rw [if_pos c2]; rw [show q_many n = 2 by omega] at key; exact key
      · rw [if_neg c2, q_g]
        refine ⟨⟨yn, by decide⟩, ?_⟩
        by_cases c3 : (n : Int) < 1000
        · rw [if_pos c3]; rw [show q_many n = 3 by omega] at key; exact key
        · rw [if_neg c3]; rw [show q_many n = 4 by omega] at key; exact key
