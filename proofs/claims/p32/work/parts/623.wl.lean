-- WHAT A TEXT OF THE REFERENCE LEAVES AS IT WAS: the cells of the class
def wl {α : Type} (x : Option α) (P : α → Prop) : Prop := ∀ v, x = some v → P v
theorem wl_g {α : Type} {c : Prop} [Decidable c] {x : Option α} {P : α → Prop} : wl (z_g c x) P ↔ (c → wl x P) := by
  constructor
  · intro h hc v hv
    exact h v (by rw [z_g_pos hc]; exact hv)
  · intro h v hv
    obtain ⟨hc, hv⟩ := z_g_some hv
    exact h hc v hv
theorem wl_b {α β : Type} {x : Option α} {f : α → Option β} {P : β → Prop} : wl (z_b x f) P ↔ wl x (fun v => wl (f v) P) := by
  constructor
  · intro h u hu v hv
    exact h v (by rw [hu]; exact hv)
  · intro h v hv
    obtain ⟨u, hu, hv⟩ := z_b_some hv
    exact h u hu v hv
theorem wl_let {α β : Type} {x : α} {f : α → Option β} {P : β → Prop} : wl (z_let x f) P ↔ wl (f x) P := Iff.rfl
theorem wl_ite {α : Type} {c : Prop} [Decidable c] {x y : Option α} {P : α → Prop} : wl (if c then x else y) P ↔ (c → wl x P) ∧ (¬ c → wl y P) := by
  by_cases h : c
  · rw [if_pos h]; exact ⟨fun k => ⟨fun _ => k, fun q => absurd h q⟩, fun k => k.1 h⟩
  · rw [if_neg h]; exact ⟨fun k => ⟨fun q => absurd q h, fun _ => k⟩, fun k => k.2 h⟩
theorem wl_some {α : Type} {v : α} {P : α → Prop} : wl (some v) P ↔ P v := ⟨fun h => h v rfl, fun h w hw => by cases hw; exact h⟩
theorem wl_any {α : Type} {x : Option α} {P : α → Prop} (h : ∀ v, P v) : wl x P := fun v _ => h v
theorem wl_mono {α : Type} {x : Option α} {P Q : α → Prop} (h : wl x P) (k : ∀ v, P v → Q v) : wl x Q := fun v hv => k v (h v hv)
theorem wl_iter {σ ρ : Type} {B : σ → Option (σ ⊕ ρ)} {P : ρ → Prop} (Inv : σ → Prop) (hs : ∀ s, Inv s → wl (B s) (fun r => match r with | .inl s' => Inv s' | .inr x => P x)) : ∀ (n : Nat) (s : σ), Inv s → wl (z_iter n B s) P := by
  intro n
  induction n with
  | zero => intro s _ v hv; cases hv
  | succ n ih =>
    intro s hI v hv
    unfold z_iter at hv
    cases hb : B s with
    | none => rw [hb] at hv; cases hv
    | some o =>
      rw [hb] at hv
      have h1 := hs s hI o hb
      cases o with
      | inl s' => exact ih s' h1 v hv
      | inr x => cases hv; exact h1
def ag (s0 s : z_St) : Prop := ∀ y, y < 168 → s y = s0 y
theorem ag_rfl {s : z_St} : ag s s := fun _ _ => rfl
theorem ag_up {s0 s : z_St} {i j v : Int} (h : ag s0 s) (hi : 168 ≤ i) : ag s0 (z_up s i j v) := fun y hy => (q_up_row (by omega)).trans (h y hy)
theorem ag_tr {a b c : z_St} (h : ag a b) (k : ag b c) : ag a c := fun y hy => (k y hy).trans (h y hy)
theorem lw_holds {x : Int} {s : z_St} : wl (J_X12_holds x s) (fun r => ag s r.2) := by
  simp only [J_X12_holds, J_X12_holds_14, wl_g, wl_b, wl_let, wl_ite, wl_some]
  (repeat' (first | exact ag_rfl | refine ag_up ?_ (by decide) | refine And.intro ?_ ?_ | intro _))
theorem lx_frame {a b c : Int} {s : z_St} : wl (J_X12_frame a b c s) (fun r => ag s r.2) := by
  simp only [J_X12_frame, J_X12_frame_29, wl_g, wl_b, wl_let, wl_ite, wl_some]
  (repeat' (first | exact ag_rfl | assumption | refine ag_up ?_ (by decide) | (refine wl_mono lw_holds ?_) | refine wl_any ?_ | refine And.intro ?_ ?_ | intro _))
theorem lw_silence {s : z_St} : wl (J_X12_silence s) (fun r => ag s r.2) := by
  simp only [J_X12_silence, wl_g, wl_b, wl_let, wl_ite, wl_some]
  (repeat' (first | exact ag_rfl | assumption | refine ag_up ?_ (by decide) | (refine wl_mono lw_holds ?_) | refine wl_any ?_ | refine And.intro ?_ ?_ | intro _))
theorem lw_speak {a : Int} {s : z_St} : wl (J_X12_speak a s) (fun r => ag s r.2) := by
  simp only [J_X12_speak, J_X12_speak_19, wl_g, wl_b, wl_let, wl_ite, wl_some]
  (repeat' (first | exact ag_rfl | assumption | refine ag_up ?_ (by decide) | (refine wl_mono lw_holds ?_) | refine wl_any ?_ | refine And.intro ?_ ?_ | intro _))
theorem lw_shift {a b c : Int} {s : z_St} : wl (J_X12_shift a b c s) (fun r => ag s r.2) := by
  simp only [J_X12_shift, J_X12_shift_43, J_X12_shift_44, wl_g, wl_b, wl_let, wl_ite, wl_some]
  (repeat' (first | exact ag_rfl | assumption | refine ag_up ?_ (by decide) | (refine wl_mono lw_holds ?_) | refine wl_any ?_ | refine And.intro ?_ ?_ | intro _))
theorem lw_sound {a b c d : Int} {s : z_St} : wl (J_X12_sound a b c d s) (fun r => ag s r.2) := by
  simp only [J_X12_sound, J_X12_sound_25, J_X12_sound_43, wl_g, wl_b, wl_let, wl_ite, wl_some]
  (repeat' (first | exact ag_rfl | assumption | refine ag_up ?_ (by decide) | (refine wl_mono lw_holds ?_) | refine wl_any ?_ | refine And.intro ?_ ?_ | intro _))
theorem lw_question {a b c d : Int} {s : z_St} : wl (J_X12_question a b c d s) (fun r => ag s r.2) := by
  have key : ∀ s0 : Int, wl (J_X12_question_84 a b c d s0 s) (fun r => ag s r.2) := fun s0 => by
    simp only [J_X12_question_84, wl_g, wl_b, wl_let, wl_ite, wl_some]
    (repeat' (first | exact ag_rfl | assumption | refine ag_up ?_ (by decide) | (refine wl_mono lw_holds ?_) | refine wl_any ?_ | refine And.intro ?_ ?_ | intro _))
  simp only [J_X12_question, J_X12_question_44, J_X12_question_45, wl_g, wl_b, wl_let, wl_ite, wl_some]
  (repeat' (first | exact key _ | refine wl_any ?_ | refine And.intro ?_ ?_ | intro _))
theorem lw_type {a : Int} {s : z_St} : wl (J_X12_type a s) (fun r => ag s r.2) := by
  simp only [J_X12_type, J_X12_type_33, wl_g, wl_b, wl_let, wl_ite, wl_some]
  (repeat' (first | exact ag_rfl | assumption | refine ag_up ?_ (by decide) | (refine wl_mono lw_holds ?_) | refine wl_any ?_ | refine And.intro ?_ ?_ | intro _))
theorem lw_back {a : Int} {s : z_St} : wl (J_X12_back a s) (fun r => ag s r.2) := by
  simp only [J_X12_back, J_X12_back_19, wl_g, wl_b, wl_let, wl_ite, wl_some]
  (repeat' (first | exact ag_rfl | assumption | refine ag_up ?_ (by decide) | (refine wl_mono lw_holds ?_) | refine wl_any ?_ | refine And.intro ?_ ?_ | intro _))
theorem lw_factor {a : Int} {s : z_St} : wl (J_X12_factor a s) (fun r => ag s r.2) := by
  simp only [J_X12_factor, J_X12_factor_19, wl_g, wl_b, wl_let, wl_ite, wl_some]
  (repeat' (first | exact ag_rfl | assumption | refine ag_up ?_ (by decide) | (refine wl_mono lw_holds ?_) | refine wl_any ?_ | refine And.intro ?_ ?_ | intro _))
theorem lw_says {w x : Int} {s : z_St} : wl (J_X12_says w x s) (fun r => ag s r.2) := by
  simp only [J_X12_says, wl_g, wl_b, wl_let, wl_ite, wl_some]
  intro _ _ _
  refine wl_iter (fun q => ag s q.2) (fun q hq => ?_) _ _ (ag_up (ag_up ag_rfl (by decide)) (by decide))
  simp only [J_X12_says_b31, wl_g, wl_b, wl_let, wl_ite, wl_some]
  have hq : ag s q.2 := hq
  (repeat' (first | exact hq | assumption | refine ag_up ?_ (by decide) | refine And.intro ?_ ?_ | intro _))
theorem lw_word {a : Int} {s : z_St} : wl (J_X12_word a s) (fun r => ag s r.2) := by
  have key : ∀ s0 : Int, wl (J_X12_word_38 a s0 s) (fun r => ag s r.2) := fun s0 => by
    simp only [J_X12_word_38, wl_g, wl_b, wl_let, wl_ite, wl_some]
    refine wl_mono lw_holds ?_
    intro r hr _
    refine ⟨fun _ => wl_mono lw_says ?_, fun _ => hr⟩
    intro r2 hr2
    exact ag_tr (ag_up hr (by decide)) hr2
  simp only [J_X12_word, J_X12_word_33, wl_g, wl_b, wl_let, wl_ite, wl_some]
  (repeat' (first | exact key _ | refine wl_any ?_ | refine And.intro ?_ ?_ | intro _))
theorem lw_saying {a b : Int} {s : z_St} : wl (J_X12_saying a b s) (fun r => ag s r.2) := by
  have key : ∀ s0 : Int, wl (J_X12_saying_52 a b s0 s) (fun r => ag s r.2) := fun s0 => by
    simp only [J_X12_saying_52, wl_g, wl_b, wl_let, wl_ite, wl_some]
    refine wl_mono lw_holds ?_
    intro r hr _
    refine ⟨fun _ => wl_mono lw_says ?_, fun _ => hr⟩
    intro r2 hr2
    exact ag_tr hr hr2
  simp only [J_X12_saying, J_X12_saying_47, wl_g, wl_b, wl_let, wl_ite, wl_some]
  (repeat' (first | exact key _ | refine wl_any ?_ | refine And.intro ?_ ?_ | intro _))
theorem lw_apart {x : Int} {s : z_St} : wl (J_X12_apart x 186 s) (fun r => ag s r.2) := by
  have k99 : ∀ (v3 s0 : Int) (t : z_St), ag s t → wl (J_X12_apart_99 186 v3 s0 t) (fun r => ag s r.2) := fun v3 s0 t ht => by
    simp only [J_X12_apart_99, J_X12_apart_149, wl_g, wl_b, wl_let, wl_ite, wl_some]
    (repeat' (first | exact ht | refine wl_any ?_ | refine And.intro ?_ ?_ | intro _))
  have key : ∀ s0 : Int, wl (J_X12_apart_52 x 186 s0 s) (fun r => ag s r.2) := fun s0 => by
    simp only [J_X12_apart_52, wl_g, wl_b, wl_let, wl_ite, wl_some]
    refine wl_iter (fun q => ag s q.2.2) (fun q hq => ?_) _ _ ag_rfl
    have hq : ag s q.2.2 := hq
    simp only [J_X12_apart_b61, wl_g, wl_b, wl_let, wl_ite, wl_some]
    (repeat' (first | exact k99 _ _ _ hq | exact hq | refine ag_up ?_ (by decide) | refine And.intro ?_ ?_ | intro _))
  simp only [J_X12_apart, wl_g, wl_b, wl_let, wl_ite, wl_some]
  (repeat' (first | exact key _ | refine wl_any ?_ | refine And.intro ?_ ?_ | intro _))
theorem lw_learn {x : Int} {s : z_St} : wl (J_X12_learn x s) (fun r => ag s r.2) := by
  have key : ∀ (v2 s0 : Int) (t : z_St), ag s t → wl (J_X12_learn_20 v2 s0 t) (fun r => ag s r.2) := fun v2 s0 t ht => by
    simp only [J_X12_learn_20, wl_g, wl_b, wl_let, wl_ite, wl_some]
    refine wl_mono lw_holds ?_
    intro r hr _
    refine ⟨fun _ => ?_, fun _ => ag_tr ht hr⟩
    refine wl_iter (fun q => ag s q.2) (fun q hq => ?_) _ _ (ag_tr ht hr)
    have hq : ag s q.2 := hq
    simp only [J_X12_learn_b30, J_X12_learn_52, J_X12_learn_67, J_X12_counts, wl_g, wl_b, wl_let, wl_ite, wl_some]
    (repeat' (first | exact hq | refine ag_up ?_ (by decide) | refine And.intro ?_ ?_ | intro _))
  simp only [J_X12_learn, wl_g, wl_b, wl_let, wl_ite, wl_some]
  refine wl_mono lw_apart ?_
  intro r hr _
  exact ⟨fun _ => key _ _ _ hr, fun _ => key _ _ _ hr⟩
-- what j_k gives of the class
theorem ghost_of {p st2 : z_St} {g : z_St} (h : q_INV g st2) (k : ag p st2) : ∃ g', q_INV g' (z_gh p) := z_gh_inv ⟨st2, k, g, h⟩
/-- an accepted call: the state that it leaves can speak -/
theorem m_of {g : z_St} {L : Option (Int × z_St)} {R : z_St → Option (Int × z_St)} {F : Int × z_St → Int × z_St → Option z_St} {p : Int × z_St} (hj : q_ok (z_b L fun r => z_b (R r.2) fun q => F r q) (q_out g)) (hF : ∀ r q, wl (F r q) (fun s => s = q.2)) (hR : ∀ s, wl (R s) (fun r => ag s r.2)) (hL : L = some (0, z_up p.2 199 0 p.1)) : ∃ g', q_INV g' (z_gh p.2) := by
  obtain ⟨s, e, g', h1, _⟩ := hj
  obtain ⟨r, hr, e⟩ := z_b_some e
  obtain ⟨q, hq, e⟩ := z_b_some e
  have e2 := hF r q s e
  subst e2
  rw [hL] at hr
  cases hr
  exact ghost_of h1 (ag_tr (ag_up ag_rfl (by decide)) (hR _ q hq))
theorem F_th {P Q : Int × z_St → Int × z_St → Int → Prop} [∀ r q t, Decidable (P r q t)] [∀ r q t, Decidable (Q r q t)] : ∀ r q : Int × z_St, wl (z_b (J_X12_thrown q.2) fun t => z_g (P r q t) <| z_g (Q r q t) <| some q.2) (fun s => s = q.2) := fun r q => by
  simp only [wl_g, wl_b, wl_some]
  exact wl_any fun v _ _ => trivial
