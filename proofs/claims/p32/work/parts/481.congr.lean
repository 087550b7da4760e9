-- THE TEXT DOESN'T MATTER FOR WHAT IS KEPT
def q_eqv (g g' : z_St) : Prop := (∀ x, 169 ≤ x → x ≤ 182 → x ≠ 177 → g' x = g x) ∧ ∀ j, 1 ≤ j → j ≤ 22 → j ≠ 13 → g' 168 j = g 168 j
theorem v_lies {g g' : z_St} (h : q_eqv g g') : q_lies g' = q_lies g := by
  funext s f w; unfold q_lies; rw [h.1 171 (by decide) (by decide) (by decide), h.1 176 (by decide) (by decide) (by decide)]
theorem v_cost {g g' : z_St} (h : q_eqv g g') : q_cost g' = q_cost g := by
  funext s f w; unfold q_cost q_off; rw [v_lies h, h.1 169 (by decide) (by decide) (by decide), h.1 170 (by decide) (by decide) (by decide), h.1 172 (by decide) (by decide) (by decide), h.2 4 (by decide) (by decide) (by decide)]
theorem v_hit {g g' : z_St} (h : q_eqv g g') {sa p q : Int} : q_hit g' sa p q ↔ q_hit g sa p q := by
  unfold q_hit; rw [h.1 180 (by decide) (by decide) (by decide), h.1 174 (by decide) (by decide) (by decide), h.1 179 (by decide) (by decide) (by decide), h.1 175 (by decide) (by decide) (by decide)]
theorem v_form {g g' : z_St} (h : q_eqv g g') : q_form g' = q_form g := by
  funext sa p
  have e : ∀ q, @decide _ (q_hitD g' sa p q) = @decide _ (q_hitD g sa p q) := fun q => by
    by_cases hh : q_hit g sa p q
    · rw [@decide_eq_true _ (q_hitD g' sa p q) ((v_hit h).mpr hh), @decide_eq_true _ (q_hitD g sa p q) hh]
    · rw [@decide_eq_false _ (q_hitD g' sa p q) (fun k => hh ((v_hit h).mp k)), @decide_eq_false _ (q_hitD g sa p q) hh]
  unfold q_form
  rw [e, e, e, h.1 180 (by decide) (by decide) (by decide), h.1 173 (by decide) (by decide) (by decide)]
theorem v_c {g g' : z_St} (h : q_eqv g g') : q_c g' = q_c g := by
  funext sa f k d; unfold q_c; rw [v_cost h, v_form h, h.1 180 (by decide) (by decide) (by decide)]
theorem v_take {g g' : z_St} (h : q_eqv g g') : q_take g' = q_take g := by
  funext sa f t; unfold q_take; rw [v_c h, h.1 179 (by decide) (by decide) (by decide)]
theorem v_tab {g g' : z_St} (h : q_eqv g g') : q_tab g' = q_tab g := by
  funext w f t; unfold q_tab q_tabk; rw [v_take h, h.1 178 (by decide) (by decide) (by decide), h.1 181 (by decide) (by decide) (by decide)]
theorem v_dear {g g' : z_St} (h : q_eqv g g') : q_dear g' = q_dear g := by
  funext a b; unfold q_dear q_price q_row q_col; rw [h.1 182 (by decide) (by decide) (by decide), h.2 20 (by decide) (by decide) (by decide), h.2 21 (by decide) (by decide) (by decide), h.2 22 (by decide) (by decide) (by decide)]
theorem v_F {g g' : z_St} (h : q_eqv g g') {d : Int → Int} : q_F g' d = q_F g d := by
  funext k
  induction k with
  | zero => funext t; cases t <;> rfl
  | succ k ih =>
    funext t
    show e_mins _ t = e_mins _ t
    exact e_mins_congr fun i _ => by rw [ih, v_tab h]
theorem v_tl {g g' : z_St} (h : q_eqv g g') {d : Int → Int} {m : Int} : q_tl g' d m = q_tl g d m := by
  funext k
  induction k with
  | zero => rfl
  | succ k ih => show q_tl g' d m k + _ = q_tl g d m k + _; rw [ih, v_dear h]
theorem v_wt {g g' : z_St} (h : q_eqv g g') : q_wt g' = q_wt g := by
  funext n; unfold q_wt q_W; rw [v_F h, v_tl h, h.2 2 (by decide) (by decide) (by decide)]
theorem v_rows {g g' : z_St} (h : q_eqv g g') : q_rows g' = q_rows g := by
  unfold q_rows; rw [h.2 18 (by decide) (by decide) (by decide)]
theorem v_len {g g' : z_St} (h : q_eqv g g') : q_len g' = q_len g := by unfold q_len; rw [v_rows h]
theorem v_wl {g g' : z_St} (h : q_eqv g g') : q_wl g' = q_wl g := by
  funext i; unfold q_wl; rw [v_rows h, v_wt h]
theorem v_rank {g g' : z_St} (h : q_eqv g g') : q_rank g' = q_rank g := by
  funext k; unfold q_rank; rw [v_len h]
  exact e_cnt_congr fun i _ => by unfold q_ah; rw [v_wl h]
theorem v_bw {g g' : z_St} (h : q_eqv g g') : q_bw g' = q_bw g := by unfold q_bw; rw [v_wl h, v_len h]
theorem v_ld {g g' : z_St} (h : q_eqv g g') : q_ld g' = q_ld g := by
  funext o
  induction o with
  | zero => funext w f; unfold q_ld; rw [v_dear h]
  | succ o ih =>
    funext w f
    rw [q_ld_succ, q_ld_succ, h.2 18 (by decide) (by decide) (by decide)]
    refine e_mins_congr fun v _ => ?_
    unfold q_bf
    rw [ih, v_tab h, v_dear h]
theorem v_bh {g g' : z_St} (h : q_eqv g g') : q_bh g' = q_bh g := by
  funext m
  induction m with
  | zero => funext w t; unfold q_bh; rw [v_dear h, h.2 2 (by decide) (by decide) (by decide)]
  | succ m ih =>
    funext w t
    rw [q_bh_s, q_bh_s, h.2 2 (by decide) (by decide) (by decide)]
    refine e_mins_congr fun k _ => ?_
    unfold q_bhk
    rw [h.2 18 (by decide) (by decide) (by decide)]
    refine e_mins_congr fun v _ => ?_
    unfold q_bhv
    rw [ih, v_tab h, v_dear h]
theorem v_thr {g g' : z_St} (h : q_eqv g g') : q_thr g' = q_thr g := by
  funext w f t; unfold q_thr q_tr; rw [v_ld h, v_bh h, v_tab h]
theorem v_sl {g g' : z_St} (h : q_eqv g g') : q_sl g' = q_sl g := by
  funext w f t; unfold q_sl; rw [v_thr h, v_bw h]
theorem v_Rr {g g' : z_St} (h : q_eqv g g') {d : Int → Int} {m : Nat} : q_Rr g' d m = q_Rr g d m := by
  funext r
  induction r with
  | zero => funext t; unfold q_Rr; rw [h.2 2 (by decide) (by decide) (by decide)]
  | succ r ih =>
    funext t
    unfold q_Rr
    rw [h.2 2 (by decide) (by decide) (by decide)]
    exact e_mins_congr fun i _ => by rw [ih, v_tab h]
theorem v_Tk {g g' : z_St} (h : q_eqv g g') {d : Int → Int} {m : Nat} : q_Tk g' d m = q_Tk g d m := by
  have hp : q_cutp g' d m = q_cutp g d m := by funext r f t; unfold q_cutp; rw [v_Rr h, v_tab h]
  funext k
  induction k with
  | zero => rfl
  | succ k ih =>
    show q_cut g' d m (m - (k + 1)) (q_Tk g' d m k) = q_cut g d m (m - (k + 1)) (q_Tk g d m k)
    unfold q_cut
    rw [ih, hp, h.2 2 (by decide) (by decide) (by decide)]
theorem v_Tl {g g' : z_St} (h : q_eqv g g') : q_Tl g' = q_Tl g := by
  have hc : q_cb g' = q_cb g := by funext sa t r e; unfold q_cb; rw [v_cost h, v_form h, h.1 180 (by decide) (by decide) (by decide), h.1 179 (by decide) (by decide) (by decide)]
  funext sa t r e; unfold q_Tl; rw [hc]
theorem v_ks {g g' : z_St} (h : q_eqv g g') {sa t : Int} {D : Nat} : q_ks g' sa t D = q_ks g sa t D := by
  funext i
  induction i with
  | zero => rfl
  | succ i ih =>
    unfold q_ks
    rw [ih, v_Tl h, h.1 179 (by decide) (by decide) (by decide)]
theorem v_chs {g g' : z_St} (h : q_eqv g g') : q_chs g' = q_chs g := by
  funext w f t; unfold q_chs; rw [v_take h, h.1 178 (by decide) (by decide) (by decide), h.1 181 (by decide) (by decide) (by decide)]
theorem v_tv {g g' : z_St} (h : q_eqv g g') {d : Int → Int} {m : Nat} : q_tv g' d m = q_tv g d m := by
  funext k i c; rw [q_tv_tw, q_tv_tw]; unfold q_tw; rw [v_Tk h, v_chs h, v_ks h, v_form h, h.1 180 (by decide) (by decide) (by decide)]
theorem v_best {g g' : z_St} (h : q_eqv g g') {k n : Nat} : q_bestRow g' k n ↔ q_bestRow g k n := by
  unfold q_bestRow; rw [v_rows h, v_wl h, v_len h]
theorem v_lead {g g' : z_St} (h : q_eqv g g') {n : Nat} {b : Int} : q_lead g' n b ↔ q_lead g n b := by
  unfold q_lead; rw [v_wl h]
theorem v_TC {g g' st : z_St} (h : q_eqv g g') (k : q_TC g st) : q_TC g' st := by
  unfold q_TC q_near q_kind at *
  rw [v_cost h, v_form h, v_tab h, v_dear h, h.2 11 (by decide) (by decide) (by decide), h.2 2 (by decide) (by decide) (by decide), h.2 18 (by decide) (by decide) (by decide), h.1 173 (by decide) (by decide) (by decide), h.1 178 (by decide) (by decide) (by decide), h.1 179 (by decide) (by decide) (by decide), h.1 180 (by decide) (by decide) (by decide)]
  exact k
theorem v_RC {g g' st : z_St} (h : q_eqv g g') (k : q_RC g st) : q_RC g' st := by
  unfold q_RC at *
  rw [v_lead h, v_wl h, v_len h, v_rows h, h.2 18 (by decide) (by decide) (by decide)]
  exact k
theorem v_ord {g g' st : z_St} (h : q_eqv g g') (k : q_ord g st) : q_ord g' st := by
  unfold q_ord at *
  rw [v_wl h, v_len h, v_rank h]
  exact k
theorem v_LC {g g' st : z_St} (h : q_eqv g g') (k : q_LC g st) : q_LC g' st := by
  unfold q_LC q_hd q_slC at *
  rw [v_sl h, h.2 18 (by decide) (by decide) (by decide), h.2 2 (by decide) (by decide) (by decide)]
  exact k
theorem v_pC {g g' st : z_St} (h : q_eqv g g') {n K : Nat} (k : q_pC g n K st) : q_pC g' n K st := by
  unfold q_pC at *
  rw [v_Tk h, v_tv h]
  exact k
