-- weightAnew: by trying
theorem e_mins_head {F : Nat → Option Int} : ∀ {n : Nat}, e_mins F (n + 1) = e_min (F 0) (e_mins (fun j => F (j + 1)) n) := by
  intro n
  induction n with
  | zero => show e_min none (F 0) = e_min (F 0) none; rw [e_min_none]; rfl
  | succ n ih =>
    show e_min (e_mins F (n + 1)) (F (n + 1)) = e_min (F 0) (e_min (e_mins (fun j => F (j + 1)) n) (F (n + 1)))
    rw [ih, e_min_assoc]
/-- the first c FRAMES of the SOUND -/
def q_ss (g : z_St) (sa t : Int) (r e : Nat) : Nat → Int
  | 0 => 0
  | c + 1 => q_ss g sa t r e c + q_cb g sa t r (e - 1 - c)
theorem q_ss_s {g : z_St} {sa t : Int} {r e : Nat} : ∀ {j : Nat}, j ≤ e → q_ss g sa t r (e + 1) (j + 1) = q_cb g sa t r e + q_ss g sa t r e j := by
  intro j
  induction j with
  | zero => intro _; show 0 + q_cb g sa t r (e + 1 - 1 - 0) = _ + 0; rw [show e + 1 - 1 - 0 = e by omega]; omega
  | succ j ih =>
    intro h
    show q_ss g sa t r (e + 1) (j + 1) + q_cb g sa t r (e + 1 - 1 - (j + 1)) = q_cb g sa t r e + (q_ss g sa t r e j + q_cb g sa t r (e - 1 - j))
    rw [ih (by omega), show e + 1 - 1 - (j + 1) = e - 1 - j by omega]; omega
def q_tt9 (g : z_St) (sa t : Int) (r e i : Nat) : Option Int := e_add (q_Tl g sa t r (e - 1 - i)) (some (q_ss g sa t r e (i + 1)))
theorem q_Tl_cut {g : z_St} {sa t : Int} {r : Nat} : ∀ {e : Nat}, q_Tl g sa t (r + 1) e = e_mins (q_tt9 g sa t r e) e := by
  intro e
  induction e with
  | zero => unfold q_Tl; rw [q_G_0]; rfl
  | succ e ih =>
    rw [q_Tl_s, ih, e_mins_head, e_min_comm, e_min_add]
    congr 1
    · show _ = e_add (q_Tl g sa t r (e + 1 - 1 - 0)) (some (0 + q_cb g sa t r (e + 1 - 1 - 0)))
      rw [show e + 1 - 1 - 0 = e by omega, Int.zero_add]
    · rw [e_mins_add]
      refine e_mins_congr fun i hi => ?_
      unfold q_tt9
      rw [e_add_assoc, q_ss_s (j := i + 1) (by omega), show e + 1 - 1 - (i + 1) = e - 1 - i by omega]
      congr 1
      show some (_ + _) = some (_ + _)
      rw [Int.add_comm]
theorem q_ss_bd {g : z_St} (hB : q_RB g) {sa t : Int} {r e : Nat} (hsa : q_said g sa) (h : r < g 179 sa ∧ e ≤ t ∧ t ≤ g 168 2) : ∀ c : Nat, c ≤ e → 0 ≤ q_ss g sa t r e c ∧ q_ss g sa t r e c ≤ c * 30000000000 := by
  intro c
  induction c with
  | zero => intro _; exact ⟨Int.le_refl _, by show (0 : Int) ≤ ((0 : Nat) : Int) * 30000000000; omega⟩
  | succ c ih =>
    intro hc
    have h1 := ih (by omega)
    have h2 := q_cb_bd hB hsa (t := t) (r := r) (e := e - 1 - c) (by omega)
    show 0 ≤ q_ss g sa t r e c + q_cb g sa t r (e - 1 - c) ∧ q_ss g sa t r e c + q_cb g sa t r (e - 1 - c) ≤ _
    omega
theorem s_X11_trySounds {g st : z_St} (hC : q_C g st) (hB : q_RB g) (hT : q_TC g st) {sa : Int} (hsa : q_said g sa) (hK : q_kind g sa st) {t : Nat} (ht : t ≤ g 168 2) : ∀ (n p f : Nat), p ≤ (g 179 sa).toNat → (g 179 sa).toNat - p < n → f ≤ t → J_X11_trySounds n (59 + 3 * sa) p f t st = some (e_I 1152921504606846976 (q_Tl g sa t ((g 179 sa).toNat - p) (t - f))) := by
  have hf1 := hB.1.1
  have hs1 := hsa.1
  have hs2 := hsa.2.1
  have hl := (hC.2.2.2.2.1.2.2 sa (by omega) (by omega)).1
  intro n
  induction n with
  | zero => intro p f _ h _; omega
  | succ n ih =>
    intro p f hp hn hf
    show J_X11_trySounds_f (J_X11_trySounds n) (59 + 3 * sa) p f t st = _
    refine q_of ?_
    simp only [J_X11_trySounds_f, J_X11_trySounds_21, q_g, q_b, q_let, q_ite, q_some, z32, z64, true_or, or_true, true_and, and_true]
    rw [hl]
    refine ⟨by omega, fun hlt => ?_, fun hge => ⟨by omega, fun he => ?_, fun he => ?_⟩⟩
    · obtain ⟨r, hr⟩ : ∃ r, (g 179 sa).toNat - p = r + 1 := ⟨(g 179 sa).toNat - p - 1, by omega⟩
      obtain ⟨e, he⟩ : ∃ e, t - f = e := ⟨_, rfl⟩
      have hkb := q_kind_bd hB hsa (p := (p : Int)) (by omega)
      have hc9 := hB.2.2.1.1
      have ek := hK p (by omega) (by omega)
      rw [ek, hr, he, q_Tl_cut]
      refine ⟨by omega, by omega, ?_⟩
      have hM : ∀ c, c ≤ e → e_bd 10000000000000 (e_mins (q_tt9 g sa t r e) c) := fun c hc => e_bd_mins fun i hi => e_bd_le (by omega) (e_bd_add (q_Tl_bd hB hsa (t := t) (r := r) (e := e - 1 - i) (by omega)) (e_bd_some (q_ss_bd hB hsa (t := t) (r := r) (e := e) (by omega) (i + 1) (by omega))))
      refine q_loop (fun q => ∃ c : Nat, c ≤ e ∧ q.2.2 = (f : Int) + 1 + c ∧ q.2.1 = q_ss g sa t r e c ∧ q.1 = e_I 1152921504606846976 (e_mins (q_tt9 g sa t r e) c)) (fun q => (18 - q.2.2).toNat) ⟨0, by omega, by show (f : Int) + 1 = _; omega, rfl, rfl⟩ (by show (18 - ((f : Int) + 1)).toNat < _; omega) ?_
      rintro ⟨u, v, w⟩ ⟨c, i1, i2, i3, i4⟩
      dsimp only at i2 i3 i4
      subst i2 i3 i4
      simp only [J_X11_trySounds_b48, q_g, q_b, q_let, q_ite, q_some, z32, z64, true_or, or_true, true_and, and_true]
      refine ⟨by omega, fun hx => ?_, fun hx => ?_⟩
      · have : c = e := by omega
        rw [this]
      · have hrec := ih (p + 1) (f + 1 + c) (by omega) (by omega) (by omega)
        rw [show ((p + 1 : Nat) : Int) = (p : Int) + 1 by omega, show ((f + 1 + c : Nat) : Int) = (f : Int) + 1 + c by omega, show (g 179 sa).toNat - (p + 1) = r by omega, show t - (f + 1 + c) = e - 1 - c by omega] at hrec
        refine ⟨by omega, q_eq hrec ?_⟩
        have en := hT.1 (g 180 (4 * sa + p)) (q_form g sa p) ((f : Int) + 1 + c - 1) (by omega) (by omega) (by omega) (by omega) (by omega) (by omega)
        have hcbe : q_cost g ((f : Int) + 1 + c - 1) (g 180 (4 * sa + p)) (q_form g sa p) = q_cb g sa t r (e - 1 - c) := by
          unfold q_cb
          rw [show (f : Int) + 1 + c - 1 = (t : Int) - 1 - ((e - 1 - c : Nat) : Int) by omega, show g 179 sa - 1 - (r : Int) = p by omega]
        rw [en, hcbe]
        have hs : q_ss g sa t r e c + q_cb g sa t r (e - 1 - c) = q_ss g sa t r e (c + 1) := rfl
        rw [hs]
        have hsb := q_ss_bd hB hsa (t := t) (r := r) (e := e) (by omega) (c + 1) (by omega)
        have b1 := q_Tl_bd hB hsa (t := t) (r := r) (e := e - 1 - c) (by omega)
        have c1 := e_I_le (K := 1152921504606846976) b1 (by decide) (by decide)
        have c2 := e_I_le (K := 1152921504606846976) (hM c (by omega)) (by decide) (by decide)
        have hacc := e_acc (hM c (by omega)) b1 (e_bd_some (B := 600000000000) (x := q_ss g sa t r e (c + 1)) (by omega)) (K := 1152921504606846976) (by decide) (by decide) (by decide) (by decide) (by decide)
        rw [e_I_some] at hacc
        refine ⟨by omega, ⟨c + 1, by omega, by omega, rfl, ?_⟩, by omega⟩
        rw [Int.add_comm (q_ss g sa t r e (c + 1)), hacc]
        rfl
    · have e0 : (g 179 sa).toNat - p = 0 := by omega
      have e1 : t - f = 0 := by omega
      rw [e0, e1]
      unfold q_Tl q_G; rfl
    · have e0 : (g 179 sa).toNat - p = 0 := by omega
      rw [e0, show t - f = (t - f - 1) + 1 by omega]
      unfold q_Tl
      rw [q_G_1]; rfl
theorem s_X11_trySayings {g st : z_St} (hC : q_C g st) (hB : q_RB g) (hT : q_TC g st) {w : Int} {f t : Nat} (hw : 0 ≤ w ∧ w < g 168 18) (hft : f < t ∧ t ≤ g 168 2) : J_X11_trySayings w f t st = some (e_I 1152921504606846976 (q_tab g w f t)) := by
  have hf1 := hB.1.1
  have hw0 := hB.2.2.2.2.1
  have hw1 := hw0.1
  have hw2 := hw0.2.1 w (by omega) (by omega)
  refine q_of ?_
  simp only [J_X11_trySayings, q_g, q_b, q_let, q_ite, q_some, z32, z64, true_or, or_true, true_and, and_true]
  refine q_eq (q_mins0 none (fun j => e_add (q_take g (2 * w + j) f t) (some (g 181 (2 * w + j)))) (g 178 w).toNat (by omega) (fun k hk => ?_) (fun x => ?_)) rfl
  · refine q_of ?_
    have hsa := q_said_of hw0 (w := w) (k := (k : Int)) (by omega)
    have hs2 := hsa.2.1
    have hs1 := hsa.1
    have hp := (hw0.2.2.2.2.1 (2 * w + k) (by omega) (by omega)).2
    have efee := (hC.2.2.2.2.1.2.2 (2 * w + k) (by omega) (by omega)).2.1
    simp only [J_X11_trySayings_b8, q_g, q_b, q_let, q_ite, q_some, z32, z64, true_or, or_true, true_and, and_true]
    rw [hC.2.2.2.2.1.2.1 w (by omega) (by omega)]
    refine ⟨by omega, by omega, fun _ => ?_, fun h9 => by omega⟩
    refine q_eq (s_X4_sayingOf (by omega)) ?_
    rw [efee]
    refine ⟨by unfold z_isSaying; omega, by omega, ?_⟩
    refine q_eq (s_X11_trySounds hC hB hT hsa (hT.2.1 w k (by omega) (by omega) (by omega) (by omega)) (t := t) (by omega) 7 0 f (by omega) (by omega) (by omega)) ?_
    have htl := q_take_Tl (g := g) (sa := 2 * w + k) (f := (f : Int)) (t := (t : Int)) (by omega)
    rw [show ((t : Int) - f).toNat = t - f by omega] at htl
    rw [Nat.sub_zero, ← htl]
    have b1 := q_take_bd hB.1 hB.2.1 hB.2.2.1 hsa (f := (f : Int)) (t := (t : Int)) (by omega)
    have b2 := q_tabk_bd hB (w := w) (f := (f : Int)) (t := (t : Int)) (by omega) (k := k) (by omega)
    have b3 : e_bd 600000010000 (e_min none (e_mins (fun j => e_add (q_take g (2 * w + j) f t) (some (g 181 (2 * w + j)))) k)) := b2
    have c1 := e_I_le (K := 1152921504606846976) b1 (by decide) (by decide)
    have c3 := e_I_le (K := 1152921504606846976) b3 (by decide) (by decide)
    have hacc := e_acc b3 b1 (e_bd_some (B := 9999) (x := g 181 (2 * w + k)) (by omega)) (K := 1152921504606846976) (by decide) (by decide) (by decide) (by decide) (by decide)
    rw [e_I_some] at hacc
    refine ⟨by omega, ?_⟩
    rw [Int.add_comm (g 181 (2 * w + k)), hacc]
  · refine q_of ?_
    simp only [J_X11_trySayings_b8, q_g, q_b, q_let, q_ite, q_some, z32, z64, true_or, or_true, true_and, and_true]
    rw [hC.2.2.2.2.1.2.1 w (by omega) (by omega)]
    exact ⟨by omega, by omega, fun h9 => by omega, fun _ => trivial⟩
/-- the PRICES from the p-th on -/
def q_sf (g : z_St) (d : Int → Int) (m p : Nat) : Int := q_tl g d m (m + 1) - q_tl g d m p
theorem q_sf_s {g : z_St} {d : Int → Int} {m p : Nat} : q_sf g d m p = q_sf g d m (p + 1) + q_dear g (if p = 0 then 5 else d ((p : Int) - 1)) (if (p : Int) = m then 5 else d p) := by
  unfold q_sf
  have : q_tl g d m (p + 1) = q_tl g d m p + q_dear g (if p = 0 then 5 else d ((p : Int) - 1)) (if (p : Int) = m then 5 else d p) := rfl
  omega
theorem q_sf_bd {g : z_St} (hB : q_RB g) {d : Int → Int} {m : Nat} (hm : m ≤ 4) (hd : ∀ j : Int, 0 ≤ j → j < m → 0 ≤ d j ∧ d j < g 168 18) : ∀ r p : Nat, p + r = m + 1 → 0 ≤ q_sf g d m p ∧ q_sf g d m p ≤ r * 19800000 := by
  have hw1 := hB.2.2.2.2.1.1
  intro r
  induction r with
  | zero => intro p h; have : p = m + 1 := by omega
            subst this
            unfold q_sf; omega
  | succ r ih =>
    intro p h
    have h1 := ih (p + 1) (by omega)
    rw [q_sf_s]
    have h2 := q_dear_bd hB.2.2.2.2.2.2 hB.2.2.2.2.2.1 (a := if p = 0 then 5 else d ((p : Int) - 1)) (b := if (p : Int) = m then 5 else d p) (by
      have a1 : ¬ p = 0 → 0 ≤ d ((p : Int) - 1) ∧ d ((p : Int) - 1) < g 168 18 := fun e => hd _ (by omega) (by omega)
      have a2 : ¬ (p : Int) = m → 0 ≤ d (p : Int) ∧ d (p : Int) < g 168 18 := fun e => hd _ (by omega) (by omega)
      refine ⟨?_, ?_, ?_, ?_⟩ <;> split <;> omega)
    omega
theorem s_X11_tryWords {g st : z_St} (hC : q_C g st) (hB : q_RB g) (hT : q_TC g st) {x : Int} {m : Nat} (hrow : q_isRow g x) (hrd : q_rd 158 x st) (hm : q_many x = (m : Int)) : ∀ (n p f : Nat), p ≤ m → m - p < n → f ≤ g 168 2 → J_X11_tryWords n 158 (g 168 2) p f st = some (e_I 1152921504606846976 (e_add (q_Rr g (q_dig x) m (m - p) f) (some (q_sf g (q_dig x) m p)))) := by
  have hf1 := hB.1.1
  have hw1 := hB.2.2.2.2.1.1
  have hmb := q_many_bd x
  have hd : ∀ j : Int, 0 ≤ j → j < m → 0 ≤ q_dig x j ∧ q_dig x j < g 168 18 := fun j a b => hrow.2 j a (by omega)
  intro n
  induction n with
  | zero => intro p f _ h _; omega
  | succ n ih =>
    intro p f hp hn hf
    show J_X11_tryWords_f (J_X11_tryWords n) 158 (g 168 2) p f st = _
    refine q_of ?_
    simp only [J_X11_tryWords_f, J_X11_tryWords_141, J_X11_tryWords_38, q_g, q_b, q_let, q_ite, q_some, z32, z64, true_or, or_true, true_and, and_true]
    have ha := s_X6_wordAt hrd (k := (p : Int) - 1) (by omega)
    have hah : (if 0 ≤ (p : Int) - 1 ∧ (p : Int) - 1 < q_many x then q_dig x ((p : Int) - 1) else -1) = if p = 0 then -1 else q_dig x ((p : Int) - 1) := by
      by_cases h0 : p = 0
      · rw [if_neg (by omega), if_pos h0]
      · rw [if_pos (by omega), if_neg h0]
    rw [hah] at ha
    refine q_eq ha ?_
    have hdp : ¬ p = 0 → 0 ≤ q_dig x ((p : Int) - 1) ∧ q_dig x ((p : Int) - 1) < g 168 18 := fun h => hd _ (by omega) (by omega)
    have hA : (-1 : Int) ≤ (if p = 0 then -1 else q_dig x ((p : Int) - 1)) ∧ (if p = 0 then -1 else q_dig x ((p : Int) - 1)) < g 168 18 := by split <;> omega
    have hA5 : (if (if p = 0 then (-1 : Int) else q_dig x ((p : Int) - 1)) = -1 then 5 else (if p = 0 then (-1 : Int) else q_dig x ((p : Int) - 1))) = if p = 0 then 5 else q_dig x ((p : Int) - 1) := by
      by_cases h0 : p = 0
      · rw [if_pos h0, if_pos rfl, if_pos h0]
      · have := hdp h0
        rw [if_neg h0, if_neg (by omega), if_neg h0]
    rw [hrd.1, hm]
    have hsfb := fun r p h => q_sf_bd hB (by omega) hd r p h
    refine ⟨by omega, fun hlt => ?_, fun hge => ⟨by omega, fun he => ?_, fun he => ?_⟩⟩
    · refine q_eq (s_X6_wordAt hrd (by omega)) ?_
      rw [if_pos (show 0 ≤ (p : Int) ∧ (p : Int) < q_many x by omega)]
      have hdk := hd p (by omega) (by omega)
      obtain ⟨r, hr⟩ : ∃ r, m - p = r + 1 := ⟨m - p - 1, by omega⟩
      have hmr : (m : Int) - ((r : Int) + 1) = p := by omega
      have hR : q_Rr g (q_dig x) m (r + 1) f = e_mins (fun i => e_add (q_Rr g (q_dig x) m r (f + 1 + i)) (q_tab g (q_dig x p) f ((f + 1 + i : Nat) : Int))) ((g 168 2).toNat - f) := by
        rw [← hmr]; rfl
      have hs1 := hsfb (m - p) (p + 1) (by omega)
      have hR2 : e_add (q_Rr g (q_dig x) m (r + 1) f) (some (q_sf g (q_dig x) m (p + 1))) = e_mins (fun i => e_add (e_add (q_Rr g (q_dig x) m r (f + 1 + i)) (some (q_sf g (q_dig x) m (p + 1)))) (q_tab g (q_dig x p) f ((f + 1 + i : Nat) : Int))) ((g 168 2).toNat - f) := by
        rw [hR, e_mins_add]
        exact e_mins_congr fun i hi => by rw [e_add_assoc, e_add_assoc, e_add_comm (a := some _)]
      have hb1 : ∀ i : Nat, (f : Int) + 1 + i ≤ g 168 2 → e_bd 3000000000000 (e_add (q_Rr g (q_dig x) m r (f + 1 + i)) (some (q_sf g (q_dig x) m (p + 1)))) := fun i hi => e_bd_le (by omega) (e_bd_add (q_Rr_bd2 hB (by omega) hd (r := r) (t := f + 1 + i) (by omega) (by omega)) (e_bd_some (B := 200000000) (by omega)))
      have hM : ∀ c : Nat, (f : Int) + c ≤ g 168 2 → e_bd 10000000000000 (e_mins (fun i => e_add (e_add (q_Rr g (q_dig x) m r (f + 1 + i)) (some (q_sf g (q_dig x) m (p + 1)))) (q_tab g (q_dig x p) f ((f + 1 + i : Nat) : Int))) c) := fun c hc => e_bd_mins fun i hi => e_bd_le (by decide) (e_bd_add (hb1 i (by omega)) (q_tab_bd hB (by omega)))
      refine q_mono (P := fun v => v = e_I 1152921504606846976 (e_add (q_Rr g (q_dig x) m (r + 1) f) (some (q_sf g (q_dig x) m (p + 1))))) ?_ ?_
      · rw [hR2]
        refine q_eq (q_mins none (fun i => e_add (e_add (q_Rr g (q_dig x) m r (f + 1 + i)) (some (q_sf g (q_dig x) m (p + 1)))) (q_tab g (q_dig x p) f ((f + 1 + i : Nat) : Int))) ((f : Int) + 1) ((g 168 2).toNat - f) (by omega) (fun i hi => ?_) (fun x => ?_)) rfl
        · refine q_of ?_
          simp only [J_X11_tryWords_b58, J_X11_tryWords_109, q_g, q_b, q_let, q_ite, q_some, z32, z64, true_or, or_true, true_and, and_true]
          have hrec := ih (p + 1) (f + 1 + i) (by omega) (by omega) (by omega)
          rw [show ((p + 1 : Nat) : Int) = (p : Int) + 1 by omega, show ((f + 1 + i : Nat) : Int) = (f : Int) + 1 + i by omega, show m - (p + 1) = r by omega] at hrec
          refine ⟨by omega, fun h9 => by omega, fun _ => ?_⟩
          refine q_eq hrec ?_
          have c1 := e_I_le (K := 1152921504606846976) (hb1 i (by omega)) (by decide) (by decide)
          have b2 : e_bd 600000010000 (q_tab g (q_dig x p) f ((f + 1 + i : Nat) : Int)) := q_tab_bd hB (by omega)
          have c2 := e_I_le (K := 1152921504606846976) b2 (by decide) (by decide)
          have c3 := e_I_le (K := 1152921504606846976) (hM i (by omega)) (by decide) (by decide)
          have hacc := e_acc (hM i (by omega)) (hb1 i (by omega)) b2 (K := 1152921504606846976) (by decide) (by decide) (by decide) (by decide) (by decide)
          have c4 : e_I 1152921504606846976 (e_min none (e_mins (fun i => e_add (e_add (q_Rr g (q_dig x) m r (f + 1 + i)) (some (q_sf g (q_dig x) m (p + 1)))) (q_tab g (q_dig x p) f ((f + 1 + i : Nat) : Int))) i)) = e_I 1152921504606846976 (e_mins (fun i => e_add (e_add (q_Rr g (q_dig x) m r (f + 1 + i)) (some (q_sf g (q_dig x) m (p + 1)))) (q_tab g (q_dig x p) f ((f + 1 + i : Nat) : Int))) i) := rfl
          refine ⟨by omega, fun hlt2 => ?_, fun hge2 => ?_⟩
          · have hts := s_X11_trySayings hC hB hT (w := q_dig x p) (f := f) (t := f + 1 + i) (by omega) (by omega)
            rw [show ((f + 1 + i : Nat) : Int) = (f : Int) + 1 + i by omega] at hts
            refine q_eq hts ?_
            rw [show (f : Int) + 1 + i = ((f + 1 + i : Nat) : Int) by omega]
            refine ⟨by omega, ?_⟩
            rw [c4, hacc]; rfl
          · have hnone : e_add (q_Rr g (q_dig x) m r (f + 1 + i)) (some (q_sf g (q_dig x) m (p + 1))) = none := by
              apply Classical.byContradiction
              intro h9; exact hge2 (c1.2.2.mpr h9)
            have : e_add (e_add (q_Rr g (q_dig x) m r (f + 1 + i)) (some (q_sf g (q_dig x) m (p + 1)))) (q_tab g (q_dig x p) f ((f + 1 + i : Nat) : Int)) = none := by rw [hnone]; rfl
            rw [this, e_min_none]
        · refine q_of ?_
          simp only [J_X11_tryWords_b58, q_g, q_b, q_let, q_ite, q_some, z32, z64, true_or, or_true, true_and, and_true]
          exact ⟨by omega, fun _ => trivial, fun h9 => by omega⟩
      · rintro _ rfl
        have hb : e_bd 3000000000000 (e_add (q_Rr g (q_dig x) m (r + 1) f) (some (q_sf g (q_dig x) m (p + 1)))) := e_bd_le (by omega) (e_bd_add (q_Rr_bd2 hB (by omega) hd (r := r + 1) (t := f) (by omega) (by omega)) (e_bd_some (B := 200000000) (by omega)))
        have cb := e_I_le (K := 1152921504606846976) hb (by decide) (by decide)
        have hadd := e_addc_N (K := 1152921504606846976) (c := q_dear g (if p = 0 then 5 else q_dig x ((p : Int) - 1)) (q_dig x p)) hb (by decide)
        have hfin : e_add (e_add (q_Rr g (q_dig x) m (r + 1) f) (some (q_sf g (q_dig x) m (p + 1)))) (some (q_dear g (if p = 0 then 5 else q_dig x ((p : Int) - 1)) (q_dig x p))) = e_add (q_Rr g (q_dig x) m (m - p) f) (some (q_sf g (q_dig x) m p)) := by
          rw [e_add_assoc, hr, q_sf_s (p := p), if_neg (show ¬ (p : Int) = m by omega)]; rfl
        rw [hfin] at hadd
        refine ⟨by omega, fun hlt2 => ?_, fun hge2 => ?_⟩
        · refine q_eq (q_toll hT hA (by omega) hw1.2) ?_
          rw [hA5, if_neg (show ¬ q_dig x p = -1 by omega)]
          rw [if_pos hlt2] at hadd
          exact hadd.symm
        · rw [if_neg hge2] at hadd
          exact hadd.symm
    · have hpm : p = m := by omega
      subst hpm
      refine q_eq (q_toll hT hA (by omega) hw1.2) ?_
      rw [hA5, if_pos (show (-1 : Int) = -1 from rfl), Nat.sub_self]
      have h0 : q_Rr g (q_dig x) p 0 f = some 0 := by unfold q_Rr; rw [if_pos he]
      rw [h0, q_sf_s, if_pos (show (p : Int) = p from rfl)]
      have : q_sf g (q_dig x) p (p + 1) = 0 := by unfold q_sf; omega
      rw [this]
      show _ = 0 + (0 + _)
      rw [Int.zero_add, Int.zero_add]
    · have hpm : p = m := by omega
      subst hpm
      rw [Nat.sub_self]
      have h0 : q_Rr g (q_dig x) p 0 f = none := by unfold q_Rr; rw [if_neg he]
      rw [h0]; rfl
theorem q_wt_R {g : z_St} (hB : q_RB g) {x : Int} {m : Nat} (hrow : q_isRow g x) (hm : q_many x = (m : Int)) : e_add (q_Rr g (q_dig x) m m 0) (some (q_sf g (q_dig x) m 0)) = q_wt g x := by
  have hf1 := hB.1.1
  have hn1 := hrow.1
  unfold q_wt q_W q_sf
  have hmN : (q_many x).toNat = m := by omega
  rw [hmN, hm]
  by_cases h0 : 0 < g 168 2
  · rw [if_pos h0, q_F_R hf1.1]
    have : q_tl g (q_dig x) m 0 = 0 := rfl
    rw [this, Int.sub_zero]
  · rw [if_neg h0]
    obtain ⟨r, hr⟩ : ∃ r, m = r + 1 := ⟨m - 1, by omega⟩
    have hz : q_Rr g (q_dig x) m (r + 1) 0 = none := by
      show e_mins _ ((g 168 2).toNat - 0) = none
      rw [show (g 168 2).toNat - 0 = 0 by omega]; rfl
    have : q_Rr g (q_dig x) m m 0 = q_Rr g (q_dig x) m (r + 1) 0 := by rw [← hr]
    rw [this, hz]; rfl
