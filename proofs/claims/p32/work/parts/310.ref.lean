-- THE REFERENCE AS PURE TEXTS (of whole; definitions alone, nothing of it is walked here)
def J_X12_thrown (st : z_St) : Option (Int) :=
  some (st 168 0)
def J_X12_holds_14 (s0 : Int) (st : z_St) : Option (Int × z_St) :=
  z_g (s0 = 0 ∨ s0 = 1) <|
  some (s0, st)
def J_X12_holds (x1 : Int) (st : z_St) : Option (Int × z_St) :=
  z_let (z_up st 168 0 x1) fun st1 =>
  z_g (z32 x1) (if 0 < x1 then
    J_X12_holds_14 1 st1
  else
    J_X12_holds_14 0 st1)
def J_X12_in_18 (s0 : Int) (st : z_St) : Option (Int) :=
  z_g (s0 = 0 ∨ s0 = 1) <|
  some s0
def J_X12_in_17 (st : z_St) : Option (Int) :=
  J_X12_in_18 0 st
def J_X12_in (x1 x3 x5 : Int) (st : z_St) : Option (Int) :=
  z_g (z64 x1 ∧ z64 x3) (if x1 < x3 then
    J_X12_in_17 st
  else
    z_g (z64 x1 ∧ z64 x5) (if x5 < x1 then
      J_X12_in_17 st
    else
      J_X12_in_18 1 st))
def J_X12_isNumber (x1 : Int) (st : z_St) : Option (Int) :=
  z_g (z32 x1) <|
  z_b (J_X12_in x1 (-30000) 30000 st) fun r1 =>
  z_g (r1 = 0 ∨ r1 = 1) <|
  some r1
def J_X12_areNumbers_29 (s0 : Int) (st : z_St) : Option (Int) :=
  z_g (s0 = 0 ∨ s0 = 1) <|
  some s0
def J_X12_areNumbers_28 (st : z_St) : Option (Int) :=
  J_X12_areNumbers_29 0 st
def J_X12_areNumbers (x1 x2 x3 : Int) (st : z_St) : Option (Int) :=
  z_b (J_X12_isNumber x1 st) fun r1 =>
  z_g (z32 r1) (if r1 = 0 then
    J_X12_areNumbers_28 st
  else
    z_b (J_X12_isNumber x2 st) fun r3 =>
    z_g (z32 r3) (if r3 = 0 then
      J_X12_areNumbers_28 st
    else
      z_b (J_X12_isNumber x3 st) fun r5 =>
      z_g (z32 r5) (if r5 = 0 then
        J_X12_areNumbers_28 st
      else
        J_X12_areNumbers_29 1 st)))
def J_X12_least_11 (s0 : Int) (st : z_St) : Option (Int) :=
  some s0
def J_X12_least (x1 x3 : Int) (st : z_St) : Option (Int) :=
  z_g (z64 x1 ∧ z64 x3) (if x1 < x3 then
    J_X12_least_11 x1 st
  else
    J_X12_least_11 x3 st)
def J_X12_frame_29 (v1 v2 v3 s0 : Int) (st : z_St) : Option (Int × z_St) :=
  z_b (J_X12_holds s0 st) fun r3 =>
  z_g (z32 r3.1) (if r3.1 = 0 then
    z_g (0 ≤ 3 * (r3.2 168 2) ∧ 3 * (r3.2 168 2) < 48) <|
    z_let (z_up r3.2 169 (3 * (r3.2 168 2)) v1) fun st5 =>
    z_g (0 ≤ (3 * (st5 168 2)) + 1 ∧ (3 * (st5 168 2)) + 1 < 48) <|
    z_let (z_up st5 169 ((3 * (st5 168 2)) + 1) v2) fun st6 =>
    z_g (0 ≤ (3 * (st6 168 2)) + 2 ∧ (3 * (st6 168 2)) + 2 < 48) <|
    z_let (z_up st6 169 ((3 * (st6 168 2)) + 2) v3) fun st7 =>
    z_let (z_up st7 168 2 ((st7 168 2) + 1)) fun st8 =>
    some (st8 168 2, st8)
  else
    some ((-1), r3.2))
def J_X12_frame (x1 x2 x3 : Int) (st : z_St) : Option (Int × z_St) :=
  z_b (J_X12_areNumbers x1 x2 x3 st) fun r1 =>
  z_g (z32 r1) (if r1 = 0 then
    J_X12_frame_29 x1 x2 x3 1 st
  else
    z_g (z32 (st 168 2) ∧ z32 16) (if st 168 2 = 16 then
      J_X12_frame_29 x1 x2 x3 2 st
    else
      J_X12_frame_29 x1 x2 x3 0 st))
def J_X12_silence (st : z_St) : Option (Int × z_St) :=
  z_b (J_X12_holds 0 st) fun r1 =>
  z_let (z_up r1.2 168 2 0) fun st3 =>
  some (r1.2 168 2, st3)
def J_X12_speak_19 (v1 s0 : Int) (st : z_St) : Option (Int × z_St) :=
  z_b (J_X12_holds s0 st) fun r3 =>
  z_g (z32 r3.1) (if r3.1 = 0 then
    z_let (z_up r3.2 168 4 v1) fun st5 =>
    some (r3.2 168 4, st5)
  else
    some ((-1), r3.2))
def J_X12_speak (x1 : Int) (st : z_St) : Option (Int × z_St) :=
  z_g (z32 x1) <|
  z_b (J_X12_in x1 0 3 st) fun r1 =>
  z_g (z32 r1) (if r1 = 0 then
    J_X12_speak_19 x1 1 st
  else
    J_X12_speak_19 x1 0 st)
def J_X12_shift_44 (v1 v2 v3 s0 : Int) (st : z_St) : Option (Int × z_St) :=
  z_b (J_X12_holds s0 st) fun r3 =>
  z_g (z32 r3.1) (if r3.1 = 0 then
    z_g (0 ≤ (3 * v1) + v2 ∧ (3 * v1) + v2 < 12) <|
    z_g (0 ≤ (3 * v1) + v2 ∧ (3 * v1) + v2 < 12) <|
    z_let (z_up r3.2 170 ((3 * v1) + v2) v3) fun st6 =>
    some (r3.2 170 ((3 * v1) + v2), st6)
  else
    some ((-1), r3.2))
def J_X12_shift_43 (v1 v2 v3 : Int) (st : z_St) : Option (Int × z_St) :=
  J_X12_shift_44 v1 v2 v3 2 st
def J_X12_shift (x1 x2 x3 : Int) (st : z_St) : Option (Int × z_St) :=
  z_g (z32 x1) <|
  z_b (J_X12_in x1 0 3 st) fun r1 =>
  z_g (z32 r1) (if r1 = 0 then
    J_X12_shift_44 x1 x2 x3 1 st
  else
    z_g (z32 x2) <|
    z_b (J_X12_in x2 0 2 st) fun r7 =>
    z_g (z32 r7) (if r7 = 0 then
      J_X12_shift_43 x1 x2 x3 st
    else
      z_b (J_X12_isNumber x3 st) fun r9 =>
      z_g (z32 r9) (if r9 = 0 then
        J_X12_shift_43 x1 x2 x3 st
      else
        J_X12_shift_44 x1 x2 x3 0 st)))
def J_X12_shiftOf_36 (v1 v2 s0 : Int) (st : z_St) : Option (Int × z_St) :=
  z_b (J_X12_holds s0 st) fun r3 =>
  z_g (z32 r3.1) (if r3.1 = 0 then
    z_g (0 ≤ (3 * v1) + v2 ∧ (3 * v1) + v2 < 12) <|
    some (r3.2 170 ((3 * v1) + v2), r3.2)
  else
    some ((-1), r3.2))
def J_X12_shiftOf (x1 x2 : Int) (st : z_St) : Option (Int × z_St) :=
  z_g (z32 x1) <|
  z_b (J_X12_in x1 0 3 st) fun r1 =>
  z_g (z32 r1) (if r1 = 0 then
    J_X12_shiftOf_36 x1 x2 1 st
  else
    z_g (z32 x2) <|
    z_b (J_X12_in x2 0 2 st) fun r6 =>
    z_g (z32 r6) (if r6 = 0 then
      J_X12_shiftOf_36 x1 x2 2 st
    else
      J_X12_shiftOf_36 x1 x2 0 st))
def J_X12_clean (x1 x2 : Int) (st : z_St) : Option (Int) :=
  z_g (0 ≤ (3 * x1) + x2 ∧ (3 * x1) + x2 < 48) <|
  z_g (0 ≤ (3 * (st 168 4)) + x2 ∧ (3 * (st 168 4)) + x2 < 12) <|
  some ((st 169 ((3 * x1) + x2)) - (st 170 ((3 * (st 168 4)) + x2)))
def J_X12_lies_30 (s0 s1 : Int) (st : z_St) : Option (Int) :=
  some (s1 + s0)
def J_X12_lies (x1 x2 x3 : Int) (st : z_St) : Option (Int) :=
  z_g (0 ≤ (3 * x1) + x3 ∧ (3 * x1) + x3 < 18) <|
  z_g (z32 x2) (if 0 < x2 then
    z_g (0 ≤ ((3 * x1) + x2) - 1 ∧ ((3 * x1) + x2) - 1 < 18) <|
    J_X12_lies_30 (st 176 (((3 * x1) + x2) - 1)) (st 171 ((3 * x1) + x3)) st
  else
    J_X12_lies_30 0 (st 171 ((3 * x1) + x3)) st)
def J_X12_down_23 (s0 : Int) (st : z_St) : Option (Int) :=
  some s0
def J_X12_down (x1 x3 : Int) (st : z_St) : Option (Int) :=
  z_g (z64 x1 ∧ z64 0) (if x1 < 0 then
    z_g (z32 (x3 - 1)) <|
    z_g (z32 x3) <|
    z_g (z64 ((x3 - 1) - x1) ∧ z64 x3 ∧ (x3 : Int) ≠ 0) <|
    J_X12_down_23 (-(((x3 - 1) - x1).tdiv x3)) st
  else
    z_g (z32 x3) <|
    z_g (z64 x1 ∧ z64 x3 ∧ (x3 : Int) ≠ 0) <|
    J_X12_down_23 (x1.tdiv x3) st)
def J_X12_span (x1 x2 x3 : Int) (st : z_St) : Option (Int) :=
  some (((289 * x1) + (17 * x2)) + x3)
def J_X12_formOf_108 (v1 v2 v3 v4 : Int) (st : z_St) : Option (Int ⊕ (Unit ⊕ Int)) :=
  some (.inl (v4 + 1))
def J_X12_formOf_48 (v1 v2 v3 v4 s0 : Int) (st : z_St) : Option (Int ⊕ (Unit ⊕ Int)) :=
  z_g (z32 s0) <|
  z_g (0 ≤ v1 ∧ v1 < 10) <|
  z_g (z32 ((st 179 v1) - 1)) <|
  z_b (J_X12_in s0 0 ((st 179 v1) - 1) st) fun r5 =>
  z_g (z32 r5) (if r5 = 0 then
    J_X12_formOf_108 v1 v2 v3 v4 st
  else
    z_g (0 ≤ (3 * v3) + v4 ∧ (3 * v3) + v4 < 18) <|
    z_g (0 ≤ (4 * v1) + s0 ∧ (4 * v1) + s0 < 40) <|
    z_g (z32 (z_iand (z_ishr (st 175 ((3 * v3) + v4)) (st 180 ((4 * v1) + s0))) 1) ∧ z32 1) (if z_iand (z_ishr (st 175 ((3 * v3) + v4)) (st 180 ((4 * v1) + s0))) 1 = 1 then
      some (.inr (.inr v4))
    else
      J_X12_formOf_108 v1 v2 v3 v4 st))
def J_X12_formOf_b14 (v1 v2 v3 v4 : Int) (st : z_St) : Option (Int ⊕ (Unit ⊕ Int)) :=
  z_g (0 ≤ v3 ∧ v3 < 6) <|
  z_g (z32 v4 ∧ z32 (st 173 v3)) (if v4 < st 173 v3 then
    z_g (0 ≤ (3 * v3) + v4 ∧ (3 * v3) + v4 < 18) <|
    z_g (z32 (st 174 ((3 * v3) + v4))) (if st 174 ((3 * v3) + v4) = 0 then
      J_X12_formOf_48 v1 v2 v3 v4 (v2 - 1) st
    else
      J_X12_formOf_48 v1 v2 v3 v4 (v2 + 1) st)
  else
    some (.inr (.inl ())))
def J_X12_formOf (x1 x2 : Int) (st : z_St) : Option (Int) :=
  z_g (0 ≤ (4 * x1) + x2 ∧ (4 * x1) + x2 < 40) <|
  z_b (z_iter z_F (fun q9 : Int => J_X12_formOf_b14 x1 x2 (st 180 ((4 * x1) + x2)) q9 st) 0) fun lx9 => match lx9 with
  | .inl y10 =>
    some 0
  | .inr y11 =>
    some (y11 + 1)
def J_X12_costOf_b6 (v1 v2 v3 v4 v6 : Int) (st : z_St) : Option ((Int × Int) ⊕ Int) :=
  z_g (z32 v6 ∧ z32 3) (if v6 < 3 then
    z_b (J_X12_clean v1 v6 st) fun r1 =>
    z_b (J_X12_lies v2 v3 v6 st) fun r3 =>
    z_g (z32 (r1 - r3)) <|
    some (.inl (v4 + ((r1 - r3) * (r1 - r3)), v6 + 1))
  else
    some (.inr v4))
def J_X12_costOf (x1 x2 x3 : Int) (st : z_St) : Option (Int) :=
  z_b (z_iter z_F (fun q9 : (Int × Int) => J_X12_costOf_b6 x1 x2 x3 q9.1 q9.2 st) (0, 0)) fun lx5 =>
    z_g (0 ≤ x2 ∧ x2 < 6) <|
    z_g (z32 (st 172 x2)) <|
    z_g (z64 lx5 ∧ z64 (st 172 x2) ∧ (st 172 x2 : Int) ≠ 0) <|
    some (lx5.tdiv (st 172 x2))
def J_X12_laysSaying_137 (v1 v2 v3 v4 v5 : Int) (st : z_St) : Option ((Int × z_St) ⊕ z_St) :=
  z_g (0 ≤ (17 * v3) + v4 ∧ (17 * v3) + v4 < 85) <|
  z_let (z_up st 185 ((17 * v3) + v4) v5) fun st11 =>
  some (.inl (v4 + 1, st11))
def J_X12_laysSaying_135 (v1 v2 v3 v4 s0 : Int) (st : z_St) : Option ((Int × z_St) ⊕ z_St) :=
  J_X12_laysSaying_137 v1 v2 v3 v4 s0 st
def J_X12_laysSaying_41 (v1 v2 v3 v4 s0 : Int) (st : z_St) : Option ((Int × z_St) ⊕ z_St) :=
  z_g (z32 v3) (if 0 < v3 then
    z_g (z32 v4 ∧ z32 v2) (if v2 < v4 then
      z_g (0 ≤ ((17 * v3) + v4) - 1 ∧ ((17 * v3) + v4) - 1 < 85) <|
      z_g (0 ≤ ((17 * (v3 - 1)) + v4) - 1 ∧ ((17 * (v3 - 1)) + v4) - 1 < 85) <|
      z_b (J_X12_least (st 185 (((17 * v3) + v4) - 1)) (st 185 (((17 * (v3 - 1)) + v4) - 1)) st) fun r4 =>
      z_g (z64 r4 ∧ z64 1000000000000000000) (if r4 < 1000000000000000000 then
        z_g (0 ≤ ((4 * v1) + v3) - 1 ∧ ((4 * v1) + v3) - 1 < 40) <|
        z_b (J_X12_formOf v1 (v3 - 1) st) fun r7 =>
        z_b (J_X12_costOf (v4 - 1) (st 180 (((4 * v1) + v3) - 1)) r7 st) fun r9 =>
        J_X12_laysSaying_135 v1 v2 v3 v4 (r4 + r9) st
      else
        J_X12_laysSaying_135 v1 v2 v3 v4 1000000000000000000 st)
    else
      J_X12_laysSaying_137 v1 v2 v3 v4 s0 st)
  else
    J_X12_laysSaying_137 v1 v2 v3 v4 s0 st)
def J_X12_laysSaying_38 (v1 v2 v3 v4 : Int) (st : z_St) : Option ((Int × z_St) ⊕ z_St) :=
  J_X12_laysSaying_41 v1 v2 v3 v4 1000000000000000000 st
def J_X12_laysSaying_b15 (v1 v2 v3 v4 : Int) (st : z_St) : Option ((Int × z_St) ⊕ z_St) :=
  z_g (z32 v4 ∧ z32 (st 168 2)) (if st 168 2 < v4 then
    some (.inr st)
  else
    z_g (z32 v3) (if v3 = 0 then
      z_g (z32 v4 ∧ z32 v2) (if v4 = v2 then
        J_X12_laysSaying_41 v1 v2 v3 v4 0 st
      else
        J_X12_laysSaying_38 v1 v2 v3 v4 st)
    else
      J_X12_laysSaying_38 v1 v2 v3 v4 st))
def J_X12_laysSaying_b2 (v1 v2 v3 : Int) (st : z_St) : Option ((Int × z_St) ⊕ z_St) :=
  z_g (0 ≤ v1 ∧ v1 < 10) <|
  z_g (z32 v3 ∧ z32 (st 179 v1)) (if st 179 v1 < v3 then
    some (.inr st)
  else
    z_b (z_iter z_F (fun q9 : (Int × z_St) => J_X12_laysSaying_b15 v1 v2 v3 q9.1 q9.2) (v2, st)) fun lx12 =>
      some (.inl (v3 + 1, lx12)))
def J_X12_laysSaying_b167 (v1 v2 v3 : Int) (st : z_St) : Option ((Int × z_St) ⊕ z_St) :=
  z_g (z32 v3 ∧ z32 (st 168 2)) (if st 168 2 < v3 then
    some (.inr st)
  else
    z_b (J_X12_span v1 v2 v3 st) fun r14 =>
    z_g (0 ≤ v1 ∧ v1 < 10) <|
    z_g (0 ≤ (17 * (st 179 v1)) + v3 ∧ (17 * (st 179 v1)) + v3 < 85) <|
    z_g (0 ≤ r14 ∧ r14 < 2890) <|
    z_let (z_up st 183 r14 (st 185 ((17 * (st 179 v1)) + v3))) fun st18 =>
    some (.inl (v3 + 1, st18)))
def J_X12_laysSaying (x1 x2 : Int) (st : z_St) : Option (z_St) :=
  z_b (z_iter z_F (fun q9 : (Int × z_St) => J_X12_laysSaying_b2 x1 x2 q9.1 q9.2) (0, st)) fun lx13 =>
    z_b (z_iter z_F (fun q9 : (Int × z_St) => J_X12_laysSaying_b167 x1 x2 q9.1 q9.2) (x2 + 1, lx13)) fun lx19 =>
      some lx19
def J_X12_laysTable_b24 (v1 v2 v3 : Int) (st : z_St) : Option ((Int × z_St) ⊕ z_St) :=
  z_g (z32 v3 ∧ z32 (st 168 2)) (if st 168 2 < v3 then
    some (.inr st)
  else
    z_b (J_X12_span v1 v2 v3 st) fun r1 =>
    z_g (0 ≤ r1 ∧ r1 < 1445) <|
    z_let (z_up st 184 r1 1000000000000000000) fun st3 =>
    some (.inl (v3 + 1, st3)))
def J_X12_laysTable_b80 (v1 v2 v3 v4 : Int) (st : z_St) : Option ((Int × z_St) ⊕ z_St) :=
  z_g (z32 v4 ∧ z32 (st 168 2)) (if st 168 2 < v4 then
    some (.inr st)
  else
    z_b (J_X12_span v1 v2 v4 st) fun r8 =>
    z_b (J_X12_span v1 v2 v4 st) fun r10 =>
    z_g (0 ≤ r10 ∧ r10 < 1445) <|
    z_b (J_X12_span ((2 * v1) + v3) v2 v4 st) fun r13 =>
    z_g (0 ≤ r13 ∧ r13 < 2890) <|
    z_g (0 ≤ (2 * v1) + v3 ∧ (2 * v1) + v3 < 10) <|
    z_g (z32 (st 181 ((2 * v1) + v3))) <|
    z_b (J_X12_least (st 184 r10) ((st 183 r13) + (st 181 ((2 * v1) + v3))) st) fun r17 =>
    z_g (0 ≤ r8 ∧ r8 < 1445) <|
    z_let (z_up st 184 r8 r17) fun st19 =>
    some (.inl (v4 + 1, st19)))
def J_X12_laysTable_b55 (v1 v2 v3 : Int) (st : z_St) : Option ((Int × z_St) ⊕ z_St) :=
  z_g (0 ≤ v1 ∧ v1 < 5) <|
  z_g (z32 v3 ∧ z32 (st 178 v1)) (if v3 < st 178 v1 then
    z_b (J_X12_laysSaying ((2 * v1) + v3) v2 st) fun st7 =>
    z_b (z_iter z_F (fun q9 : (Int × z_St) => J_X12_laysTable_b80 v1 v2 v3 q9.1 q9.2) (v2 + 1, st7)) fun lx20 =>
      some (.inl (v3 + 1, lx20))
  else
    some (.inr st))
def J_X12_laysTable_b12 (v1 v2 : Int) (st : z_St) : Option ((Int × z_St) ⊕ z_St) :=
  z_g (z32 v2 ∧ z32 (st 168 2)) (if v2 < st 168 2 then
    z_b (z_iter z_F (fun q9 : (Int × z_St) => J_X12_laysTable_b24 v1 v2 q9.1 q9.2) (v2 + 1, st)) fun lx4 =>
      z_b (z_iter z_F (fun q9 : (Int × z_St) => J_X12_laysTable_b55 v1 v2 q9.1 q9.2) (0, lx4)) fun lx21 =>
        some (.inl (v2 + 1, lx21))
  else
    some (.inr st))
def J_X12_laysTable_b2 (v1 : Int) (st : z_St) : Option ((Int × z_St) ⊕ z_St) :=
  z_g (z32 v1 ∧ z32 (st 168 18)) (if v1 < st 168 18 then
    z_b (z_iter z_F (fun q9 : (Int × z_St) => J_X12_laysTable_b12 v1 q9.1 q9.2) (0, st)) fun lx22 =>
      some (.inl (v1 + 1, lx22))
  else
    some (.inr st))
def J_X12_laysTable (st : z_St) : Option (z_St) :=
  z_b (z_iter z_F (fun q9 : (Int × z_St) => J_X12_laysTable_b2 q9.1 q9.2) (0, st)) fun lx23 =>
    some lx23
def J_X12_isWord (x1 : Int) (st : z_St) : Option (Int) :=
  z_g (z32 x1) <|
  z_g (z32 ((st 168 18) - 1)) <|
  z_b (J_X12_in x1 0 ((st 168 18) - 1) st) fun r1 =>
  z_g (r1 = 0 ∨ r1 = 1) <|
  some r1
def J_X12_apart_b61 (v2 v3 v4 v5 : Int) (st : z_St) : Option ((Int × Int × z_St) ⊕ z_St) :=
  z_g (z32 v5) (if v5 < 0 then
    some (.inr st)
  else
    z_g (z32 v4 ∧ z32 10 ∧ (10 : Int) ≠ 0) <|
    z_g (0 ≤ v5 ∧ v5 < 4) <|
    z_let (z_up st v2 v5 ((v4.tmod 10) - 1)) fun st1 =>
    z_g (z32 v4 ∧ z32 10 ∧ (10 : Int) ≠ 0) <|
    some (.inl (v4.tdiv 10, v5 + (-1), st1)))
def J_X12_apart_131 (v2 v3 v6 s0 : Int) (st : z_St) : Option ((Int × Int) ⊕ Int) :=
  some (.inl (s0, v6 + 1))
def J_X12_apart_130 (v2 v3 v6 : Int) (st : z_St) : Option ((Int × Int) ⊕ Int) :=
  J_X12_apart_131 v2 v3 v6 0 st
def J_X12_apart_b104 (v2 v3 v5 v6 : Int) (st : z_St) : Option ((Int × Int) ⊕ Int) :=
  z_g (z32 v6 ∧ z32 v3) (if v6 < v3 then
    z_g (z32 v5) (if v5 = 0 then
      J_X12_apart_130 v2 v3 v6 st
    else
      z_g (0 ≤ v6 ∧ v6 < 4) <|
      z_b (J_X12_isWord (st v2 v6) st) fun r4 =>
      z_g (z32 r4) (if r4 = 0 then
        J_X12_apart_130 v2 v3 v6 st
      else
        J_X12_apart_131 v2 v3 v6 1 st))
  else
    some (.inr v5))
def J_X12_apart_149 (s0 : Int) (st : z_St) : Option (Int × z_St) :=
  some (s0, st)
def J_X12_apart_99 (v2 v3 s0 : Int) (st : z_St) : Option (Int × z_St) :=
  z_b (z_iter z_F (fun q9 : (Int × Int) => J_X12_apart_b104 v2 v3 q9.1 q9.2 st) (s0, 0)) fun lx6 =>
    z_g (z32 lx6) (if lx6 = 0 then
      J_X12_apart_149 0 st
    else
      J_X12_apart_149 v3 st)
def J_X12_apart_52 (v1 v2 s0 : Int) (st : z_St) : Option (Int × z_St) :=
  z_b (z_iter z_F (fun q9 : (Int × Int × z_St) => J_X12_apart_b61 v2 s0 q9.1 q9.2.1 q9.2.2) (v1, s0 - 1, st)) fun lx2 =>
    z_g (z32 s0) (if 0 < s0 then
      J_X12_apart_99 v2 s0 1 lx2
    else
      J_X12_apart_99 v2 s0 0 lx2)
def J_X12_apart (x1 x2 : Int) (st : z_St) : Option (Int × z_St) :=
  z_g (z32 x1 ∧ z32 1) (if x1 < 1 then
    J_X12_apart_52 x1 x2 0 st
  else
    z_g (z32 x1 ∧ z32 10) (if x1 < 10 then
      J_X12_apart_52 x1 x2 1 st
    else
      z_g (z32 x1 ∧ z32 100) (if x1 < 100 then
        J_X12_apart_52 x1 x2 2 st
      else
        z_g (z32 x1 ∧ z32 1000) (if x1 < 1000 then
          J_X12_apart_52 x1 x2 3 st
        else
          z_g (z32 x1 ∧ z32 10000) (if x1 < 10000 then
            J_X12_apart_52 x1 x2 4 st
          else
            J_X12_apart_52 x1 x2 0 st)))))
def J_X12_tableOf (x1 x2 x3 : Int) (st : z_St) : Option (Int) :=
  z_b (J_X12_span x1 x2 x3 st) fun r1 =>
  z_g (0 ≤ r1 ∧ r1 < 1445) <|
  some (st 184 r1)
def J_X12_lg_b4 (v1 v2 v3 : Int) (st : z_St) : Option ((Int × Int) ⊕ (Int × Int)) :=
  z_g (z32 v1 ∧ z32 2 ∧ (2 : Int) ≠ 0) <|
  z_g (z32 v3 ∧ z32 (v1.tdiv 2)) (if v1.tdiv 2 < v3 then
    some (.inr (v2, v3))
  else
    some (.inl (v2 + 1, v3 * 2)))
def J_X12_lg (x1 : Int) (st : z_St) : Option (Int) :=
  z_b (z_iter z_F (fun q9 : (Int × Int) => J_X12_lg_b4 x1 q9.1 q9.2 st) (0, 1)) fun lx1 =>
    z_g (z32 (8 * x1) ∧ z32 lx1.2 ∧ (lx1.2 : Int) ≠ 0) <|
    some (((8 * lx1.1) + ((8 * x1).tdiv lx1.2)) - 8)
def J_X12_priceOf_b8 (v1 v2 v3 v4 v5 : Int) (st : z_St) : Option ((Int × Int × Int) ⊕ (Int × Int)) :=
  z_g (z32 v5 ∧ z32 6) (if v5 < 6 then
    z_g (0 ≤ (6 * v1) + v5 ∧ (6 * v1) + v5 < 36) <|
    z_g (0 ≤ (6 * v5) + v2 ∧ (6 * v5) + v2 < 36) <|
    some (.inl (v3 + (st 182 ((6 * v1) + v5)), v4 + (st 182 ((6 * v5) + v2)), v5 + 1))
  else
    some (.inr (v3, v4)))
def J_X12_priceOf_122 (s0 : Int) (st : z_St) : Option (Int) :=
  some s0
def J_X12_priceOf (x1 x2 : Int) (st : z_St) : Option (Int) :=
  z_b (z_iter z_F (fun q9 : (Int × Int × Int) => J_X12_priceOf_b8 x1 x2 q9.1 q9.2.1 q9.2.2 st) (0, 0, 0)) fun lx3 =>
    z_g (0 ≤ (6 * x1) + x2 ∧ (6 * x1) + x2 < 36) <|
    z_g (z32 (st 182 ((6 * x1) + x2))) (if 0 < st 182 ((6 * x1) + x2) then
      z_b (J_X12_lg lx3.1 st) fun r5 =>
      z_b (J_X12_lg (st 182 ((6 * x1) + x2)) st) fun r7 =>
      z_g (z32 (r5 - r7)) <|
      J_X12_priceOf_122 (100 * (r5 - r7)) st
    else
      z_g (z32 (st 168 21)) <|
      z_b (J_X12_lg ((st 168 20) + 6) st) fun r9 =>
      z_b (J_X12_lg (lx3.2 + 1) st) fun r11 =>
      z_g (z32 (r9 - r11)) <|
      J_X12_priceOf_122 ((st 168 21) + (100 * (r9 - r11))) st)
def J_X12_dear (x1 x2 : Int) (st : z_St) : Option (Int) :=
  z_g (z32 (st 168 22)) <|
  z_b (J_X12_priceOf x1 x2 st) fun r1 =>
  some ((st 168 22) * r1)
def J_X12_weightOf_109 (v1 v2 v3 v6 s0 : Int) (st : z_St) : Option ((Int × Int) ⊕ Int) :=
  some (.inl (s0, v6 + 1))
def J_X12_weightOf_b37 (v1 v2 v3 v4 v6 : Int) (st : z_St) : Option ((Int × Int) ⊕ Int) :=
  z_g (z32 v6 ∧ z32 v3) (if v6 < v3 then
    z_g (z32 v2) (if 0 < v2 then
      z_g (0 ≤ (17 * (v2 - 1)) + v6 ∧ (17 * (v2 - 1)) + v6 < 85) <|
      z_g (z64 (st 188 ((17 * (v2 - 1)) + v6)) ∧ z64 1000000000000000000) (if st 188 ((17 * (v2 - 1)) + v6) < 1000000000000000000 then
        z_g (0 ≤ (17 * (v2 - 1)) + v6 ∧ (17 * (v2 - 1)) + v6 < 85) <|
        z_g (0 ≤ v2 - 1 ∧ v2 - 1 < 4) <|
        z_b (J_X12_tableOf (st 186 (v2 - 1)) v6 v3 st) fun r4 =>
        z_b (J_X12_least v4 ((st 188 ((17 * (v2 - 1)) + v6)) + r4) st) fun r6 =>
        J_X12_weightOf_109 v1 v2 v3 v6 r6 st
      else
        J_X12_weightOf_109 v1 v2 v3 v6 v4 st)
    else
      some (.inr v4))
  else
    some (.inr v4))
def J_X12_weightOf_144 (v1 v2 v3 s0 s1 : Int) (st : z_St) : Option ((Int × z_St) ⊕ z_St) :=
  z_g (0 ≤ s1 ∧ s1 < 85) <|
  z_let (z_up st 188 s1 s0) fun st9 =>
  some (.inl (v3 + 1, st9))
def J_X12_weightOf_32 (v1 v2 v3 s0 : Int) (st : z_St) : Option ((Int × z_St) ⊕ z_St) :=
  z_b (z_iter z_F (fun q9 : (Int × Int) => J_X12_weightOf_b37 v1 v2 v3 q9.1 q9.2 st) (s0, 0)) fun lx8 =>
    z_g (z64 lx8 ∧ z64 1000000000000000000) (if lx8 < 1000000000000000000 then
      J_X12_weightOf_144 v1 v2 v3 lx8 ((17 * v2) + v3) st
    else
      J_X12_weightOf_144 v1 v2 v3 1000000000000000000 ((17 * v2) + v3) st)
def J_X12_weightOf_29 (v1 v2 v3 : Int) (st : z_St) : Option ((Int × z_St) ⊕ z_St) :=
  J_X12_weightOf_32 v1 v2 v3 1000000000000000000 st
def J_X12_weightOf_b9 (v1 v2 v3 : Int) (st : z_St) : Option ((Int × z_St) ⊕ z_St) :=
  z_g (z32 v3 ∧ z32 (st 168 2)) (if st 168 2 < v3 then
    some (.inr st)
  else
    z_g (z32 v2) (if v2 = 0 then
      z_g (z32 v3) (if v3 = 0 then
        J_X12_weightOf_32 v1 v2 v3 0 st
      else
        J_X12_weightOf_29 v1 v2 v3 st)
    else
      J_X12_weightOf_29 v1 v2 v3 st))
def J_X12_weightOf_b2 (v1 v2 : Int) (st : z_St) : Option ((Int × z_St) ⊕ z_St) :=
  z_g (z32 v2 ∧ z32 v1) (if v1 < v2 then
    some (.inr st)
  else
    z_b (z_iter z_F (fun q9 : (Int × z_St) => J_X12_weightOf_b9 v1 v2 q9.1 q9.2) (0, st)) fun lx10 =>
      some (.inl (v2 + 1, lx10)))
def J_X12_weightOf_226 (v1 v4 s0 s1 s3 : Int) (st : z_St) : Option ((Int × Int) ⊕ Int) :=
  z_b (J_X12_dear s1 s0 st) fun r13 =>
  some (.inl (s3 + r13, v4 + 1))
def J_X12_weightOf_209 (v1 v4 s0 s2 : Int) (st : z_St) : Option ((Int × Int) ⊕ Int) :=
  z_g (z32 v4 ∧ z32 v1) (if v4 = v1 then
    J_X12_weightOf_226 v1 v4 5 s0 s2 st
  else
    z_g (0 ≤ v4 ∧ v4 < 4) <|
    J_X12_weightOf_226 v1 v4 (st 186 v4) s0 s2 st)
def J_X12_weightOf_b175 (v1 v2 v4 : Int) (st : z_St) : Option ((Int × Int) ⊕ Int) :=
  z_g (z32 v4 ∧ z32 v1) (if v1 < v4 then
    some (.inr v2)
  else
    z_g (z64 v2 ∧ z64 1000000000000000000) (if v2 < 1000000000000000000 then
      z_g (z32 v4) (if v4 = 0 then
        J_X12_weightOf_209 v1 v4 5 v2 st
      else
        z_g (0 ≤ v4 - 1 ∧ v4 - 1 < 4) <|
        J_X12_weightOf_209 v1 v4 (st 186 (v4 - 1)) v2 st)
    else
      some (.inr v2)))
def J_X12_weightOf_251 (s0 : Int) (st : z_St) : Option (Int × z_St) :=
  some (s0, st)
def J_X12_weightOf (x1 : Int) (st : z_St) : Option (Int × z_St) :=
  z_b (z_iter z_F (fun q9 : (Int × z_St) => J_X12_weightOf_b2 x1 q9.1 q9.2) (0, st)) fun lx11 =>
    z_g (0 ≤ (17 * x1) + (lx11 168 2) ∧ (17 * x1) + (lx11 168 2) < 85) <|
    z_b (z_iter z_F (fun q9 : (Int × Int) => J_X12_weightOf_b175 x1 q9.1 q9.2 lx11) (lx11 188 ((17 * x1) + (lx11 168 2)), 0)) fun lx17 =>
      z_g (z32 (lx11 168 2)) (if 0 < lx11 168 2 then
        J_X12_weightOf_251 lx17 lx11
      else
        J_X12_weightOf_251 1000000000000000000 lx11)
def J_X12_laysRows_113 (v1 v2 : Int) (st : z_St) : Option ((Int × Int × z_St) ⊕ (Int × z_St)) :=
  some (.inl (v1, v2 + 1, st))
def J_X12_laysRows_102 (v2 s0 : Int) (st : z_St) : Option ((Int × Int × z_St) ⊕ (Int × z_St)) :=
  z_let (z_up st 168 31 ((st 168 31) + 1)) fun st10 =>
  J_X12_laysRows_113 s0 v2 st10
def J_X12_laysRows_94 (v2 : Int) (st : z_St) : Option ((Int × Int × z_St) ⊕ (Int × z_St)) :=
  J_X12_laysRows_102 v2 (st 168 31) st
def J_X12_laysRows_101 (v1 v2 : Int) (st : z_St) : Option ((Int × Int × z_St) ⊕ (Int × z_St)) :=
  J_X12_laysRows_102 v2 v1 st
def J_X12_laysRows_b13 (v1 v2 : Int) (st : z_St) : Option ((Int × Int × z_St) ⊕ (Int × z_St)) :=
  z_g (z32 v2 ∧ z32 5555) (if 5555 < v2 then
    some (.inr (v1, st))
  else
    z_g (z32 (st 168 18)) (if 0 < st 168 18 then
      z_b (J_X12_apart v2 186 st) fun r4 =>
      z_g (z32 r4.1) (if 0 < r4.1 then
        z_b (J_X12_weightOf r4.1 r4.2) fun r6 =>
        z_g (0 ≤ r6.2 168 31 ∧ r6.2 168 31 < 780) <|
        z_let (z_up r6.2 189 (r6.2 168 31) r6.1) fun st8 =>
        z_g (0 ≤ st8 168 31 ∧ st8 168 31 < 780) <|
        z_let (z_up st8 190 (st8 168 31) v2) fun st9 =>
        z_g (z64 r6.1 ∧ z64 1000000000000000000) (if r6.1 < 1000000000000000000 then
          z_g (z32 v1) (if v1 < 0 then
            J_X12_laysRows_94 v2 st9
          else
            z_g (0 ≤ v1 ∧ v1 < 780) <|
            z_g (z64 r6.1 ∧ z64 (st9 189 v1)) (if r6.1 < st9 189 v1 then
              J_X12_laysRows_94 v2 st9
            else
              J_X12_laysRows_101 v1 v2 st9))
        else
          J_X12_laysRows_101 v1 v2 st9)
      else
        J_X12_laysRows_113 v1 v2 r4.2)
    else
      some (.inr (v1, st))))
def J_X12_laysRows (st : z_St) : Option (Int × z_St) :=
  z_b (J_X12_laysTable st) fun st2 =>
  z_let (z_up st2 168 31 0) fun st3 =>
  z_b (z_iter z_F (fun q9 : (Int × Int × z_St) => J_X12_laysRows_b13 q9.1 q9.2.1 q9.2.2) ((-1), 1, st3)) fun lx12 =>
    some (lx12.1, lx12.2)
def J_X12_laysRest_117 (v1 v2 v3 v6 s0 : Int) (st : z_St) : Option ((Int × Int) ⊕ Int) :=
  some (.inl (s0, v6 + 1))
def J_X12_laysRest_b43 (v1 v2 v3 v4 v6 : Int) (st : z_St) : Option ((Int × Int) ⊕ Int) :=
  z_g (z32 v6 ∧ z32 (st 168 2)) (if st 168 2 < v6 then
    some (.inr v4)
  else
    z_g (z32 v2 ∧ z32 v1) (if v2 < v1 then
      z_g (0 ≤ (17 * (v2 + 1)) + v6 ∧ (17 * (v2 + 1)) + v6 < 85) <|
      z_g (z64 (st 188 ((17 * (v2 + 1)) + v6)) ∧ z64 1000000000000000000) (if st 188 ((17 * (v2 + 1)) + v6) < 1000000000000000000 then
        z_g (0 ≤ (17 * (v2 + 1)) + v6 ∧ (17 * (v2 + 1)) + v6 < 85) <|
        z_g (0 ≤ v2 ∧ v2 < 4) <|
        z_b (J_X12_tableOf (st 186 v2) v3 v6 st) fun r4 =>
        z_b (J_X12_least v4 ((st 188 ((17 * (v2 + 1)) + v6)) + r4) st) fun r6 =>
        J_X12_laysRest_117 v1 v2 v3 v6 r6 st
      else
        J_X12_laysRest_117 v1 v2 v3 v6 v4 st)
    else
      some (.inr v4)))
def J_X12_laysRest_152 (v1 v2 v3 s0 s1 : Int) (st : z_St) : Option ((Int × z_St) ⊕ z_St) :=
  z_g (0 ≤ s1 ∧ s1 < 85) <|
  z_let (z_up st 188 s1 s0) fun st9 =>
  some (.inl (v3 + 1, st9))
def J_X12_laysRest_36 (v1 v2 v3 s0 : Int) (st : z_St) : Option ((Int × z_St) ⊕ z_St) :=
  z_b (z_iter z_F (fun q9 : (Int × Int) => J_X12_laysRest_b43 v1 v2 v3 q9.1 q9.2 st) (s0, v3 + 1)) fun lx8 =>
    z_g (z64 lx8 ∧ z64 1000000000000000000) (if lx8 < 1000000000000000000 then
      J_X12_laysRest_152 v1 v2 v3 lx8 ((17 * v2) + v3) st
    else
      J_X12_laysRest_152 v1 v2 v3 1000000000000000000 ((17 * v2) + v3) st)
def J_X12_laysRest_33 (v1 v2 v3 : Int) (st : z_St) : Option ((Int × z_St) ⊕ z_St) :=
  J_X12_laysRest_36 v1 v2 v3 1000000000000000000 st
def J_X12_laysRest_b8 (v1 v2 v3 : Int) (st : z_St) : Option ((Int × z_St) ⊕ z_St) :=
  z_g (z32 v3 ∧ z32 (st 168 2)) (if st 168 2 < v3 then
    some (.inr st)
  else
    z_g (z32 v2 ∧ z32 v1) (if v2 = v1 then
      z_g (z32 v3 ∧ z32 (st 168 2)) (if v3 = st 168 2 then
        J_X12_laysRest_36 v1 v2 v3 0 st
      else
        J_X12_laysRest_33 v1 v2 v3 st)
    else
      J_X12_laysRest_33 v1 v2 v3 st))
def J_X12_laysRest_b2 (v1 v2 : Int) (st : z_St) : Option ((Int × z_St) ⊕ z_St) :=
  z_g (z32 v2) (if v2 < 0 then
    some (.inr st)
  else
    z_b (z_iter z_F (fun q9 : (Int × z_St) => J_X12_laysRest_b8 v1 v2 q9.1 q9.2) (0, st)) fun lx10 =>
      some (.inl (v2 + (-1), lx10)))
def J_X12_laysRest (x1 : Int) (st : z_St) : Option (z_St) :=
  z_b (z_iter z_F (fun q9 : (Int × z_St) => J_X12_laysRest_b2 x1 q9.1 q9.2) (x1, st)) fun lx11 =>
    some lx11
def J_X12_sayingOf_83 (s0 : Int) (st : z_St) : Option (Int) :=
  some s0
def J_X12_sayingOf_71 (s0 : Int) (st : z_St) : Option (Int) :=
  z_g (z32 s0) (if s0 = 0 then
    J_X12_sayingOf_83 0 st
  else
    J_X12_sayingOf_83 1 st)
def J_X12_sayingOf_70 (st : z_St) : Option (Int) :=
  J_X12_sayingOf_71 0 st
def J_X12_sayingOf (x1 x2 x3 : Int) (st : z_St) : Option (Int) :=
  z_g (0 ≤ x1 ∧ x1 < 5) <|
  z_g (z32 (st 178 x1) ∧ z32 2) (if st 178 x1 = 2 then
    z_b (J_X12_span ((2 * x1) + 1) x2 x3 st) fun r2 =>
    z_g (0 ≤ r2 ∧ r2 < 2890) <|
    z_g (0 ≤ (2 * x1) + 1 ∧ (2 * x1) + 1 < 10) <|
    z_g (z32 (st 181 ((2 * x1) + 1))) <|
    z_b (J_X12_span (2 * x1) x2 x3 st) fun r6 =>
    z_g (0 ≤ r6 ∧ r6 < 2890) <|
    z_g (0 ≤ 2 * x1 ∧ 2 * x1 < 10) <|
    z_g (z32 (st 181 (2 * x1))) <|
    z_g (z64 ((st 183 r2) + (st 181 ((2 * x1) + 1))) ∧ z64 ((st 183 r6) + (st 181 (2 * x1)))) (if (st 183 r2) + (st 181 ((2 * x1) + 1)) < (st 183 r6) + (st 181 (2 * x1)) then
      J_X12_sayingOf_71 1 st
    else
      J_X12_sayingOf_70 st)
  else
    J_X12_sayingOf_70 st)
def J_X12_laysSounds_157 (v1 v2 v3 v4 v5 v6 v7 v8 v9 v10 : Int) (st : z_St) : Option ((Int × z_St) ⊕ z_St) :=
  z_g (0 ≤ (17 * v8) + v9 ∧ (17 * v8) + v9 < 85) <|
  z_let (z_up st 185 ((17 * v8) + v9) v10) fun st11 =>
  some (.inl (v9 + (-1), st11))
def J_X12_laysSounds_155 (v1 v2 v3 v4 v5 v6 v7 v8 v9 s0 : Int) (st : z_St) : Option ((Int × z_St) ⊕ z_St) :=
  J_X12_laysSounds_157 v1 v2 v3 v4 v5 v6 v7 v8 v9 s0 st
def J_X12_laysSounds_57 (v1 v2 v3 v4 v5 v6 v7 v8 v9 s0 : Int) (st : z_St) : Option ((Int × z_St) ⊕ z_St) :=
  z_g (z32 v8 ∧ z32 v7) (if v8 < v7 then
    z_g (z32 v9 ∧ z32 v5) (if v9 < v5 then
      z_g (0 ≤ ((17 * v8) + v9) + 1 ∧ ((17 * v8) + v9) + 1 < 85) <|
      z_g (0 ≤ ((17 * (v8 + 1)) + v9) + 1 ∧ ((17 * (v8 + 1)) + v9) + 1 < 85) <|
      z_b (J_X12_least (st 185 (((17 * v8) + v9) + 1)) (st 185 (((17 * (v8 + 1)) + v9) + 1)) st) fun r4 =>
      z_g (z64 r4 ∧ z64 1000000000000000000) (if r4 < 1000000000000000000 then
        z_g (0 ≤ (4 * v6) + v8 ∧ (4 * v6) + v8 < 40) <|
        z_b (J_X12_formOf v6 v8 st) fun r7 =>
        z_b (J_X12_costOf v9 (st 180 ((4 * v6) + v8)) r7 st) fun r9 =>
        J_X12_laysSounds_155 v1 v2 v3 v4 v5 v6 v7 v8 v9 (r4 + r9) st
      else
        J_X12_laysSounds_155 v1 v2 v3 v4 v5 v6 v7 v8 v9 1000000000000000000 st)
    else
      J_X12_laysSounds_157 v1 v2 v3 v4 v5 v6 v7 v8 v9 s0 st)
  else
    J_X12_laysSounds_157 v1 v2 v3 v4 v5 v6 v7 v8 v9 s0 st)
def J_X12_laysSounds_54 (v1 v2 v3 v4 v5 v6 v7 v8 v9 : Int) (st : z_St) : Option ((Int × z_St) ⊕ z_St) :=
  J_X12_laysSounds_57 v1 v2 v3 v4 v5 v6 v7 v8 v9 1000000000000000000 st
def J_X12_laysSounds_b29 (v1 v2 v3 v4 v5 v6 v7 v8 v9 : Int) (st : z_St) : Option ((Int × z_St) ⊕ z_St) :=
  z_g (z32 v9 ∧ z32 v4) (if v9 < v4 then
    some (.inr st)
  else
    z_g (z32 v8 ∧ z32 v7) (if v8 = v7 then
      z_g (z32 v9 ∧ z32 v5) (if v9 = v5 then
        J_X12_laysSounds_57 v1 v2 v3 v4 v5 v6 v7 v8 v9 0 st
      else
        J_X12_laysSounds_54 v1 v2 v3 v4 v5 v6 v7 v8 v9 st)
    else
      J_X12_laysSounds_54 v1 v2 v3 v4 v5 v6 v7 v8 v9 st))
def J_X12_laysSounds_b20 (v1 v2 v3 v4 v5 v6 v7 v8 : Int) (st : z_St) : Option ((Int × z_St) ⊕ z_St) :=
  z_g (z32 v8) (if v8 < 0 then
    some (.inr st)
  else
    z_b (z_iter z_F (fun q9 : (Int × z_St) => J_X12_laysSounds_b29 v1 v2 v3 v4 v5 v6 v7 v8 q9.1 q9.2) (v5, st)) fun lx12 =>
      some (.inl (v8 + (-1), lx12)))
def J_X12_laysSounds_336 (v1 v2 v3 v5 v6 v9 s0 s1 : Int) (st : z_St) : Option ((Int × Int × z_St) ⊕ z_St) :=
  some (.inl (s1 + s0, v9 + 1, st))
def J_X12_laysSounds_b191 (v1 v2 v3 v5 v6 v8 v9 : Int) (st : z_St) : Option ((Int × Int × z_St) ⊕ z_St) :=
  z_g (z32 v9 ∧ z32 v5) (if v9 < v5 then
    z_g (0 ≤ 6 * v9 ∧ 6 * v9 < 96) <|
    z_let (z_up st 191 (6 * v9) v1) fun st14 =>
    z_g (0 ≤ (6 * v9) + 1 ∧ (6 * v9) + 1 < 96) <|
    z_let (z_up st14 191 ((6 * v9) + 1) v2) fun st15 =>
    z_g (0 ≤ (6 * v9) + 2 ∧ (6 * v9) + 2 < 96) <|
    z_let (z_up st15 191 ((6 * v9) + 2) v3) fun st16 =>
    z_g (0 ≤ (6 * v9) + 3 ∧ (6 * v9) + 3 < 96) <|
    z_let (z_up st16 191 ((6 * v9) + 3) v8) fun st17 =>
    z_g (0 ≤ (4 * v6) + v8 ∧ (4 * v6) + v8 < 40) <|
    z_g (0 ≤ (6 * v9) + 4 ∧ (6 * v9) + 4 < 96) <|
    z_let (z_up st17 191 ((6 * v9) + 4) (st17 180 ((4 * v6) + v8))) fun st19 =>
    z_b (J_X12_formOf v6 v8 st19) fun r20 =>
    z_g (0 ≤ (6 * v9) + 5 ∧ (6 * v9) + 5 < 96) <|
    z_let (z_up st19 191 ((6 * v9) + 5) r20) fun st22 =>
    z_g (0 ≤ ((17 * (v8 + 1)) + v9) + 1 ∧ ((17 * (v8 + 1)) + v9) + 1 < 85) <|
    z_g (0 ≤ ((17 * v8) + v9) + 1 ∧ ((17 * v8) + v9) + 1 < 85) <|
    z_g (z64 (st22 185 (((17 * (v8 + 1)) + v9) + 1)) ∧ z64 (st22 185 (((17 * v8) + v9) + 1))) (if st22 185 (((17 * v8) + v9) + 1) < st22 185 (((17 * (v8 + 1)) + v9) + 1) then
      J_X12_laysSounds_336 v1 v2 v3 v5 v6 v9 0 v8 st22
    else
      J_X12_laysSounds_336 v1 v2 v3 v5 v6 v9 1 v8 st22)
  else
    some (.inr st))
def J_X12_laysSounds (x1 x2 x3 x4 x5 : Int) (st : z_St) : Option (z_St) :=
  z_g (0 ≤ (2 * x2) + x3 ∧ (2 * x2) + x3 < 10) <|
  z_b (z_iter z_F (fun q9 : (Int × z_St) => J_X12_laysSounds_b20 x1 x2 x3 x4 x5 ((2 * x2) + x3) (st 179 ((2 * x2) + x3)) q9.1 q9.2) (st 179 ((2 * x2) + x3), st)) fun lx13 =>
    z_b (z_iter z_F (fun q9 : (Int × Int × z_St) => J_X12_laysSounds_b191 x1 x2 x3 x5 ((2 * x2) + x3) q9.1 q9.2.1 q9.2.2) (0, x4, lx13)) fun lx25 =>
      some lx25
def J_X12_laysPath_115 (v1 v2 v3 v4 v5 : Int) (st : z_St) : Option (Int ⊕ Int) :=
  some (.inl (v5 + 1))
def J_X12_laysPath_b47 (v1 v2 v3 v4 v5 : Int) (st : z_St) : Option (Int ⊕ Int) :=
  z_g (0 ≤ (17 * (v4 + 1)) + v5 ∧ (17 * (v4 + 1)) + v5 < 85) <|
  z_g (z64 (st 188 ((17 * (v4 + 1)) + v5)) ∧ z64 1000000000000000000) (if st 188 ((17 * (v4 + 1)) + v5) < 1000000000000000000 then
    z_g (0 ≤ (17 * (v4 + 1)) + v5 ∧ (17 * (v4 + 1)) + v5 < 85) <|
    z_g (0 ≤ v4 ∧ v4 < 4) <|
    z_b (J_X12_tableOf (st 186 v4) v3 v5 st) fun r11 =>
    z_g (0 ≤ (17 * v4) + v3 ∧ (17 * v4) + v3 < 85) <|
    z_g (z64 ((st 188 ((17 * (v4 + 1)) + v5)) + r11) ∧ z64 (st 188 ((17 * v4) + v3))) (if (st 188 ((17 * (v4 + 1)) + v5)) + r11 = st 188 ((17 * v4) + v3) then
      some (.inr v5)
    else
      J_X12_laysPath_115 v1 v2 v3 v4 v5 st)
  else
    J_X12_laysPath_115 v1 v2 v3 v4 v5 st)
def J_X12_laysPath_b36 (v1 v2 v3 v4 : Int) (st : z_St) : Option ((Int × Int × z_St) ⊕ z_St) :=
  z_g (z32 v4 ∧ z32 v2) (if v4 < v2 then
    z_b (z_iter z_F (fun q9 : Int => J_X12_laysPath_b47 v1 v2 v3 v4 q9 st) (v3 + 1)) fun lx14 =>
      z_g (0 ≤ v4 ∧ v4 < 4) <|
      z_g (0 ≤ v4 ∧ v4 < 4) <|
      z_b (J_X12_sayingOf (st 186 v4) v3 lx14 st) fun r17 =>
      z_b (J_X12_laysSounds v4 (st 186 v4) r17 v3 lx14 st) fun st20 =>
      some (.inl (lx14, v4 + 1, st20))
  else
    some (.inr st))
def J_X12_laysPath (st : z_St) : Option (Int × z_St) :=
  z_b (J_X12_laysRows st) fun r1 =>
  z_g (z32 r1.1) (if r1.1 < 0 then
    some ((-1), r1.2)
  else
    z_g (0 ≤ r1.1 ∧ r1.1 < 780) <|
    z_b (J_X12_apart (r1.2 190 r1.1) 186 r1.2) fun r4 =>
    z_b (J_X12_laysRest r4.1 r4.2) fun st7 =>
    z_b (z_iter z_F (fun q9 : (Int × Int × z_St) => J_X12_laysPath_b36 r1.1 r4.1 q9.1 q9.2.1 q9.2.2) (0, 0, st7)) fun lx21 =>
      some (r1.1, lx21))
def J_X12_fit_b37 (v2 v3 v5 : Int) (st : z_St) : Option ((Int × Int) ⊕ Int) :=
  z_g (z32 v5 ∧ z32 (st 168 2)) (if v5 < st 168 2 then
    z_b (J_X12_clean v5 v2 st) fun r5 =>
    z_g (0 ≤ (6 * v5) + 4 ∧ (6 * v5) + 4 < 96) <|
    z_g (0 ≤ (6 * v5) + 5 ∧ (6 * v5) + 5 < 96) <|
    z_b (J_X12_lies (st 191 ((6 * v5) + 4)) (st 191 ((6 * v5) + 5)) v2 st) fun r9 =>
    z_g (z32 (r5 - r9)) <|
    some (.inl (v3 + (r5 - r9), v5 + 1))
  else
    some (.inr v3))
def J_X12_fit_b27 (v2 : Int) (st : z_St) : Option ((Int × z_St) ⊕ z_St) :=
  z_g (z32 v2 ∧ z32 3) (if v2 < 3 then
    z_b (z_iter z_F (fun q9 : (Int × Int) => J_X12_fit_b37 v2 q9.1 q9.2 st) (0, 0)) fun lx11 =>
      z_g (0 ≤ (3 * (st 168 4)) + v2 ∧ (3 * (st 168 4)) + v2 < 12) <|
      z_g (z32 (st 170 ((3 * (st 168 4)) + v2))) <|
      z_b (J_X12_down lx11 (st 168 2) st) fun r13 =>
      z_g (0 ≤ v2 ∧ v2 < 85) <|
      z_let (z_up st 185 v2 ((st 170 ((3 * (st 168 4)) + v2)) + r13)) fun st15 =>
      some (.inl (v2 + 1, st15))
  else
    some (.inr st))
def J_X12_fit_184 (v2 s0 s1 : Int) (st : z_St) : Option ((Int × z_St) ⊕ z_St) :=
  z_g (0 ≤ s1 ∧ s1 < 12) <|
  z_let (z_up st 170 s1 s0) fun st18 =>
  some (.inl (v2 + 1, st18))
def J_X12_fit_b131 (v2 : Int) (st : z_St) : Option ((Int × z_St) ⊕ z_St) :=
  z_g (z32 v2 ∧ z32 3) (if v2 < 3 then
    z_g (0 ≤ v2 ∧ v2 < 85) <|
    z_g (z64 (st 185 v2) ∧ z64 (-30000)) (if st 185 v2 < (-30000) then
      J_X12_fit_184 v2 (-30000) ((3 * (st 168 4)) + v2) st
    else
      z_g (z64 (st 185 v2) ∧ z64 30000) (if 30000 < st 185 v2 then
        J_X12_fit_184 v2 30000 ((3 * (st 168 4)) + v2) st
      else
        J_X12_fit_184 v2 (st 185 v2) ((3 * (st 168 4)) + v2) st))
  else
    some (.inr st))
def J_X12_fit_15 (s0 : Int) (st : z_St) : Option (Int × z_St) :=
  z_b (J_X12_holds s0 st) fun r3 =>
  z_g (z32 r3.1) (if r3.1 = 0 then
    z_b (z_iter z_F (fun q9 : (Int × z_St) => J_X12_fit_b27 q9.1 q9.2) (0, r3.2)) fun lx16 =>
      z_b (z_iter z_F (fun q9 : (Int × z_St) => J_X12_fit_b131 q9.1 q9.2) (0, lx16)) fun lx19 =>
        z_b (J_X12_laysRows lx19) fun r20 =>
        z_g (0 ≤ r20.1 ∧ r20.1 < 780) <|
        some (r20.2 189 r20.1, r20.2)
  else
    some ((-1), r3.2))
def J_X12_fit (st : z_St) : Option (Int × z_St) :=
  z_b (J_X12_laysPath st) fun r1 =>
  z_g (z32 r1.1) (if r1.1 < 0 then
    J_X12_fit_15 1 r1.2
  else
    J_X12_fit_15 0 r1.2)
def J_X12_sound_43 (v1 v2 v3 v4 s0 : Int) (st : z_St) : Option (Int × z_St) :=
  z_b (J_X12_holds s0 st) fun r3 =>
  z_g (z32 r3.1) (if r3.1 = 0 then
    z_g (0 ≤ 3 * (r3.2 168 11) ∧ 3 * (r3.2 168 11) < 18) <|
    z_let (z_up r3.2 171 (3 * (r3.2 168 11)) v1) fun st5 =>
    z_g (0 ≤ (3 * (st5 168 11)) + 1 ∧ (3 * (st5 168 11)) + 1 < 18) <|
    z_let (z_up st5 171 ((3 * (st5 168 11)) + 1) v2) fun st6 =>
    z_g (0 ≤ (3 * (st6 168 11)) + 2 ∧ (3 * (st6 168 11)) + 2 < 18) <|
    z_let (z_up st6 171 ((3 * (st6 168 11)) + 2) v3) fun st7 =>
    z_g (0 ≤ st7 168 11 ∧ st7 168 11 < 6) <|
    z_let (z_up st7 172 (st7 168 11) v4) fun st8 =>
    z_let (z_up st8 168 11 ((st8 168 11) + 1)) fun st9 =>
    some ((st9 168 11) - 1, st9)
  else
    some ((-1), r3.2))
def J_X12_sound_25 (v1 v2 v3 v4 : Int) (st : z_St) : Option (Int × z_St) :=
  J_X12_sound_43 v1 v2 v3 v4 1 st
def J_X12_sound (x1 x2 x3 x4 : Int) (st : z_St) : Option (Int × z_St) :=
  z_b (J_X12_areNumbers x1 x2 x3 st) fun r1 =>
  z_g (z32 r1) (if r1 = 0 then
    J_X12_sound_25 x1 x2 x3 x4 st
  else
    z_g (z32 x4) <|
    z_b (J_X12_in x4 1 99 st) fun r10 =>
    z_g (z32 r10) (if r10 = 0 then
      J_X12_sound_25 x1 x2 x3 x4 st
    else
      z_g (z32 (st 168 11) ∧ z32 6) (if st 168 11 = 6 then
        J_X12_sound_43 x1 x2 x3 x4 2 st
      else
        J_X12_sound_43 x1 x2 x3 x4 0 st)))
def J_X12_isSound (x1 : Int) (st : z_St) : Option (Int) :=
  z_g (z32 x1) <|
  z_g (z32 ((st 168 11) - 1)) <|
  z_b (J_X12_in x1 0 ((st 168 11) - 1) st) fun r1 =>
  z_g (r1 = 0 ∨ r1 = 1) <|
  some r1
def J_X12_question_84 (v1 v2 v3 v4 s0 : Int) (st : z_St) : Option (Int × z_St) :=
  z_b (J_X12_holds s0 st) fun r5 =>
  z_g (z32 r5.1) (if r5.1 = 0 then
    z_g (0 ≤ v1 ∧ v1 < 6) <|
    z_g (0 ≤ (3 * v1) + (r5.2 173 v1) ∧ (3 * v1) + (r5.2 173 v1) < 18) <|
    z_let (z_up r5.2 174 ((3 * v1) + (r5.2 173 v1)) v2) fun st8 =>
    z_g (0 ≤ (3 * v1) + (r5.2 173 v1) ∧ (3 * v1) + (r5.2 173 v1) < 18) <|
    z_let (z_up st8 175 ((3 * v1) + (r5.2 173 v1)) v3) fun st9 =>
    z_g (0 ≤ (3 * v1) + (r5.2 173 v1) ∧ (3 * v1) + (r5.2 173 v1) < 18) <|
    z_let (z_up st9 176 ((3 * v1) + (r5.2 173 v1)) v4) fun st10 =>
    z_g (0 ≤ v1 ∧ v1 < 6) <|
    z_g (0 ≤ v1 ∧ v1 < 6) <|
    z_let (z_up st10 173 v1 ((st10 173 v1) + 1)) fun st12 =>
    z_g (0 ≤ v1 ∧ v1 < 6) <|
    some (st12 173 v1, st12)
  else
    some ((-1), r5.2))
def J_X12_question_45 (v1 v2 v3 v4 s0 : Int) (st : z_St) : Option (Int × z_St) :=
  z_b (J_X12_isSound v1 st) fun r3 =>
  z_g (z32 r3) (if r3 = 0 then
    J_X12_question_84 v1 v2 v3 v4 1 st
  else
    z_g (z32 s0) (if s0 = 0 then
      J_X12_question_84 v1 v2 v3 v4 2 st
    else
      z_g (0 ≤ v1 ∧ v1 < 6) <|
      z_g (z32 (st 173 v1) ∧ z32 3) (if st 173 v1 = 3 then
        J_X12_question_84 v1 v2 v3 v4 3 st
      else
        J_X12_question_84 v1 v2 v3 v4 0 st)))
def J_X12_question_44 (v1 v2 v3 v4 : Int) (st : z_St) : Option (Int × z_St) :=
  J_X12_question_45 v1 v2 v3 v4 0 st
def J_X12_question (x1 x2 x3 x4 : Int) (st : z_St) : Option (Int × z_St) :=
  z_g (z32 x2) <|
  z_b (J_X12_in x2 0 1 st) fun r1 =>
  z_g (z32 r1) (if r1 = 0 then
    J_X12_question_44 x1 x2 x3 x4 st
  else
    z_g (z32 x3) <|
    z_b (J_X12_in x3 0 63 st) fun r15 =>
    z_g (z32 r15) (if r15 = 0 then
      J_X12_question_44 x1 x2 x3 x4 st
    else
      z_g (z32 x4) <|
      z_b (J_X12_in x4 (-3000) 3000 st) fun r17 =>
      z_g (z32 r17) (if r17 = 0 then
        J_X12_question_44 x1 x2 x3 x4 st
      else
        J_X12_question_45 x1 x2 x3 x4 1 st)))
def J_X12_type_33 (v1 s0 : Int) (st : z_St) : Option (Int × z_St) :=
  z_b (J_X12_holds s0 st) fun r3 =>
  z_g (z32 r3.1) (if r3.1 = 0 then
    z_g (0 ≤ r3.2 168 13 ∧ r3.2 168 13 < 4) <|
    z_let (z_up r3.2 177 (r3.2 168 13) (v1 - 97)) fun st5 =>
    z_let (z_up st5 168 13 ((st5 168 13) + 1)) fun st6 =>
    some (st6 168 13, st6)
  else
    some ((-1), r3.2))
def J_X12_type (x1 : Int) (st : z_St) : Option (Int × z_St) :=
  z_g (z32 x1) <|
  z_b (J_X12_in x1 97 102 st) fun r1 =>
  z_g (z32 r1) (if r1 = 0 then
    J_X12_type_33 x1 1 st
  else
    z_g (z32 (st 168 13) ∧ z32 4) (if st 168 13 = 4 then
      J_X12_type_33 x1 2 st
    else
      J_X12_type_33 x1 0 st))
def J_X12_isSaid_45 (v2 s0 : Int) (st : z_St) : Option ((Int × Int) ⊕ Int) :=
  some (.inl (s0, v2 + 1))
def J_X12_isSaid_44 (v2 : Int) (st : z_St) : Option ((Int × Int) ⊕ Int) :=
  J_X12_isSaid_45 v2 0 st
def J_X12_isSaid_b15 (v1 v2 : Int) (st : z_St) : Option ((Int × Int) ⊕ Int) :=
  z_g (z32 v2 ∧ z32 (st 168 13)) (if v2 < st 168 13 then
    z_g (z32 v1) (if v1 = 0 then
      J_X12_isSaid_44 v2 st
    else
      z_g (0 ≤ v2 ∧ v2 < 4) <|
      z_g (z32 (st 177 v2) ∧ z32 (st 168 11)) (if st 177 v2 < st 168 11 then
        J_X12_isSaid_45 v2 1 st
      else
        J_X12_isSaid_44 v2 st))
  else
    some (.inr v1))
def J_X12_isSaid_12 (s0 : Int) (st : z_St) : Option (Int) :=
  z_b (z_iter z_F (fun q9 : (Int × Int) => J_X12_isSaid_b15 q9.1 q9.2 st) (s0, 0)) fun lx2 =>
    z_g (lx2 = 0 ∨ lx2 = 1) <|
    some lx2
def J_X12_isSaid (st : z_St) : Option (Int) :=
  z_g (z32 (st 168 13)) (if 0 < st 168 13 then
    J_X12_isSaid_12 1 st
  else
    J_X12_isSaid_12 0 st)
def J_X12_says_b31 (v1 v3 v4 : Int) (st : z_St) : Option ((Int × z_St) ⊕ z_St) :=
  z_g (z32 v4 ∧ z32 (st 168 13)) (if v4 < st 168 13 then
    z_g (0 ≤ v4 ∧ v4 < 4) <|
    z_g (0 ≤ (4 * v3) + v4 ∧ (4 * v3) + v4 < 40) <|
    z_let (z_up st 180 ((4 * v3) + v4) (st 177 v4)) fun st5 =>
    some (.inl (v4 + 1, st5))
  else
    some (.inr st))
def J_X12_says (x1 x2 : Int) (st : z_St) : Option (Int × z_St) :=
  z_g (0 ≤ x1 ∧ x1 < 5) <|
  z_g (0 ≤ (2 * x1) + (st 178 x1) ∧ (2 * x1) + (st 178 x1) < 10) <|
  z_let (z_up st 179 ((2 * x1) + (st 178 x1)) (st 168 13)) fun st2 =>
  z_g (0 ≤ (2 * x1) + (st 178 x1) ∧ (2 * x1) + (st 178 x1) < 10) <|
  z_let (z_up st2 181 ((2 * x1) + (st 178 x1)) x2) fun st3 =>
  z_b (z_iter z_F (fun q9 : (Int × z_St) => J_X12_says_b31 x1 ((2 * x1) + (st 178 x1)) q9.1 q9.2) (0, st3)) fun lx6 =>
    z_g (0 ≤ x1 ∧ x1 < 5) <|
    z_g (0 ≤ x1 ∧ x1 < 5) <|
    z_let (z_up lx6 178 x1 ((lx6 178 x1) + 1)) fun st8 =>
    z_let (z_up st8 168 13 0) fun st9 =>
    some (st8 168 13, st9)
def J_X12_word_38 (v1 s0 : Int) (st : z_St) : Option (Int × z_St) :=
  z_b (J_X12_holds s0 st) fun r3 =>
  z_g (z32 r3.1) (if r3.1 = 0 then
    z_let (z_up r3.2 168 18 ((r3.2 168 18) + 1)) fun st5 =>
    z_b (J_X12_says ((st5 168 18) - 1) v1 st5) fun r6 =>
    some ((r6.2 168 18) - 1, r6.2)
  else
    some ((-1), r3.2))
def J_X12_word_33 (v1 : Int) (st : z_St) : Option (Int × z_St) :=
  J_X12_word_38 v1 2 st
def J_X12_word (x1 : Int) (st : z_St) : Option (Int × z_St) :=
  z_g (z32 x1) <|
  z_b (J_X12_in x1 0 9999 st) fun r1 =>
  z_g (z32 r1) (if r1 = 0 then
    J_X12_word_38 x1 1 st
  else
    z_b (J_X12_isSaid st) fun r8 =>
    z_g (z32 r8) (if r8 = 0 then
      J_X12_word_33 x1 st
    else
      z_g (z32 (st 168 18) ∧ z32 5) (if st 168 18 = 5 then
        J_X12_word_33 x1 st
      else
        J_X12_word_38 x1 0 st)))
def J_X12_saying_52 (v1 v2 s0 : Int) (st : z_St) : Option (Int × z_St) :=
  z_b (J_X12_holds s0 st) fun r3 =>
  z_g (z32 r3.1) (if r3.1 = 0 then
    z_b (J_X12_says v1 v2 r3.2) fun r5 =>
    some (r5.1, r5.2)
  else
    some ((-1), r3.2))
def J_X12_saying_47 (v1 v2 : Int) (st : z_St) : Option (Int × z_St) :=
  J_X12_saying_52 v1 v2 3 st
def J_X12_saying (x1 x2 : Int) (st : z_St) : Option (Int × z_St) :=
  z_b (J_X12_isWord x1 st) fun r1 =>
  z_g (z32 r1) (if r1 = 0 then
    J_X12_saying_52 x1 x2 1 st
  else
    z_g (z32 x2) <|
    z_b (J_X12_in x2 0 9999 st) fun r7 =>
    z_g (z32 r7) (if r7 = 0 then
      J_X12_saying_52 x1 x2 2 st
    else
      z_b (J_X12_isSaid st) fun r9 =>
      z_g (z32 r9) (if r9 = 0 then
        J_X12_saying_47 x1 x2 st
      else
        z_g (0 ≤ x1 ∧ x1 < 5) <|
        z_g (z32 (st 178 x1) ∧ z32 2) (if st 178 x1 = 2 then
          J_X12_saying_47 x1 x2 st
        else
          J_X12_saying_52 x1 x2 0 st))))
def J_X12_form_68 (v1 v2 v3 s0 : Int) (st : z_St) : Option (Int × z_St) :=
  z_b (J_X12_holds s0 st) fun r3 =>
  z_g (z32 r3.1) (if r3.1 = 0 then
    z_b (J_X12_formOf ((2 * v1) + v2) v3 r3.2) fun r5 =>
    some (r5, r3.2)
  else
    some ((-1), r3.2))
def J_X12_form_55 (v1 v2 v3 s0 : Int) (st : z_St) : Option (Int × z_St) :=
  z_g (z32 s0) (if s0 = 0 then
    J_X12_form_68 v1 v2 v3 1 st
  else
    J_X12_form_68 v1 v2 v3 0 st)
def J_X12_form_54 (v1 v2 v3 : Int) (st : z_St) : Option (Int × z_St) :=
  J_X12_form_55 v1 v2 v3 0 st
def J_X12_form (x1 x2 x3 : Int) (st : z_St) : Option (Int × z_St) :=
  z_b (J_X12_isWord x1 st) fun r1 =>
  z_g (z32 r1) (if r1 = 0 then
    J_X12_form_54 x1 x2 x3 st
  else
    z_g (z32 x2) <|
    z_g (0 ≤ x1 ∧ x1 < 5) <|
    z_g (z32 ((st 178 x1) - 1)) <|
    z_b (J_X12_in x2 0 ((st 178 x1) - 1) st) fun r8 =>
    z_g (z32 r8) (if r8 = 0 then
      J_X12_form_54 x1 x2 x3 st
    else
      z_g (z32 x3) <|
      z_g (0 ≤ (2 * x1) + x2 ∧ (2 * x1) + x2 < 10) <|
      z_g (z32 ((st 179 ((2 * x1) + x2)) - 1)) <|
      z_b (J_X12_in x3 0 ((st 179 ((2 * x1) + x2)) - 1) st) fun r11 =>
      z_g (z32 r11) (if r11 = 0 then
        J_X12_form_54 x1 x2 x3 st
      else
        J_X12_form_55 x1 x2 x3 1 st)))
def J_X12_cost_64 (v1 v2 v3 s0 : Int) (st : z_St) : Option (Int × z_St) :=
  z_b (J_X12_holds s0 st) fun r3 =>
  z_g (z32 r3.1) (if r3.1 = 0 then
    z_b (J_X12_costOf v1 v2 v3 r3.2) fun r5 =>
    some (r5, r3.2)
  else
    some ((-1), r3.2))
def J_X12_cost_30 (v1 v2 v3 s0 : Int) (st : z_St) : Option (Int × z_St) :=
  z_g (z32 s0) (if s0 = 0 then
    J_X12_cost_64 v1 v2 v3 1 st
  else
    z_g (z32 v3) <|
    z_g (0 ≤ v2 ∧ v2 < 6) <|
    z_g (z32 (st 173 v2)) <|
    z_b (J_X12_in v3 0 (st 173 v2) st) fun r8 =>
    z_g (z32 r8) (if r8 = 0 then
      J_X12_cost_64 v1 v2 v3 2 st
    else
      J_X12_cost_64 v1 v2 v3 0 st))
def J_X12_cost_29 (v1 v2 v3 : Int) (st : z_St) : Option (Int × z_St) :=
  J_X12_cost_30 v1 v2 v3 0 st
def J_X12_cost (x1 x2 x3 : Int) (st : z_St) : Option (Int × z_St) :=
  z_g (z32 x1) <|
  z_g (z32 ((st 168 2) - 1)) <|
  z_b (J_X12_in x1 0 ((st 168 2) - 1) st) fun r1 =>
  z_g (z32 r1) (if r1 = 0 then
    J_X12_cost_29 x1 x2 x3 st
  else
    z_b (J_X12_isSound x2 st) fun r10 =>
    z_g (z32 r10) (if r10 = 0 then
      J_X12_cost_29 x1 x2 x3 st
    else
      J_X12_cost_30 x1 x2 x3 1 st))
def J_X12_told_15 (s0 : Int) (st : z_St) : Option (Int) :=
  some s0
def J_X12_told (x1 : Int) (st : z_St) : Option (Int) :=
  z_g (z64 x1 ∧ z64 1000000000000000000) (if x1 < 1000000000000000000 then
    J_X12_told_15 x1 st
  else
    J_X12_told_15 (-1) st)
def J_X12_over_53 (v1 v2 v3 s0 : Int) (st : z_St) : Option (Int × z_St) :=
  z_b (J_X12_holds s0 st) fun r3 =>
  z_g (z32 r3.1) (if r3.1 = 0 then
    z_b (J_X12_laysTable r3.2) fun st6 =>
    z_b (J_X12_tableOf v1 v2 v3 st6) fun r7 =>
    z_b (J_X12_told r7 st6) fun r9 =>
    some (r9, st6)
  else
    some ((-1), r3.2))
def J_X12_over_52 (v1 v2 v3 : Int) (st : z_St) : Option (Int × z_St) :=
  J_X12_over_53 v1 v2 v3 2 st
def J_X12_over (x1 x2 x3 : Int) (st : z_St) : Option (Int × z_St) :=
  z_b (J_X12_isWord x1 st) fun r1 =>
  z_g (z32 r1) (if r1 = 0 then
    J_X12_over_53 x1 x2 x3 1 st
  else
    z_g (z32 x2) <|
    z_g (z32 ((st 168 2) - 1)) <|
    z_b (J_X12_in x2 0 ((st 168 2) - 1) st) fun r11 =>
    z_g (z32 r11) (if r11 = 0 then
      J_X12_over_52 x1 x2 x3 st
    else
      z_g (z32 x3) <|
      z_g (z32 x2) <|
      z_g (z32 (st 168 2)) <|
      z_b (J_X12_in x3 (x2 + 1) (st 168 2) st) fun r13 =>
      z_g (z32 r13) (if r13 = 0 then
        J_X12_over_52 x1 x2 x3 st
      else
        J_X12_over_53 x1 x2 x3 0 st)))
def J_X12_counts (x1 x2 : Int) (st : z_St) : Option (z_St) :=
  z_g (0 ≤ (6 * x1) + x2 ∧ (6 * x1) + x2 < 36) <|
  z_g (0 ≤ (6 * x1) + x2 ∧ (6 * x1) + x2 < 36) <|
  z_let (z_up st 182 ((6 * x1) + x2) ((st 182 ((6 * x1) + x2)) + 1)) fun st2 =>
  z_let (z_up st2 168 20 ((st2 168 20) + 1)) fun st3 =>
  some st3
def J_X12_learn_67 (v2 v3 s0 s1 : Int) (st : z_St) : Option ((Int × z_St) ⊕ z_St) :=
  z_b (J_X12_counts s1 s0 st) fun st6 =>
  some (.inl (v3 + 1, st6))
def J_X12_learn_52 (v2 v3 s0 : Int) (st : z_St) : Option ((Int × z_St) ⊕ z_St) :=
  z_g (z32 v3 ∧ z32 v2) (if v3 = v2 then
    J_X12_learn_67 v2 v3 5 s0 st
  else
    z_g (0 ≤ v3 ∧ v3 < 4) <|
    J_X12_learn_67 v2 v3 (st 186 v3) s0 st)
def J_X12_learn_b30 (v2 v3 : Int) (st : z_St) : Option ((Int × z_St) ⊕ z_St) :=
  z_g (z32 v3 ∧ z32 v2) (if v2 < v3 then
    some (.inr st)
  else
    z_g (z32 v3) (if v3 = 0 then
      J_X12_learn_52 v2 v3 5 st
    else
      z_g (0 ≤ v3 - 1 ∧ v3 - 1 < 4) <|
      J_X12_learn_52 v2 v3 (st 186 (v3 - 1)) st))
def J_X12_learn_20 (v2 s0 : Int) (st : z_St) : Option (Int × z_St) :=
  z_b (J_X12_holds s0 st) fun r3 =>
  z_g (z32 r3.1) (if r3.1 = 0 then
    z_b (z_iter z_F (fun q9 : (Int × z_St) => J_X12_learn_b30 v2 q9.1 q9.2) (0, r3.2)) fun lx9 =>
      some (lx9 168 20, lx9)
  else
    some ((-1), r3.2))
def J_X12_learn (x1 : Int) (st : z_St) : Option (Int × z_St) :=
  z_b (J_X12_apart x1 186 st) fun r1 =>
  z_g (z32 r1.1) (if 0 < r1.1 then
    J_X12_learn_20 r1.1 0 r1.2
  else
    J_X12_learn_20 r1.1 1 r1.2)
def J_X12_back_19 (v1 s0 : Int) (st : z_St) : Option (Int × z_St) :=
  z_b (J_X12_holds s0 st) fun r3 =>
  z_g (z32 r3.1) (if r3.1 = 0 then
    z_let (z_up r3.2 168 21 v1) fun st5 =>
    some (r3.2 168 21, st5)
  else
    some ((-1), r3.2))
def J_X12_back (x1 : Int) (st : z_St) : Option (Int × z_St) :=
  z_g (z32 x1) <|
  z_b (J_X12_in x1 0 99999 st) fun r1 =>
  z_g (z32 r1) (if r1 = 0 then
    J_X12_back_19 x1 1 st
  else
    J_X12_back_19 x1 0 st)
def J_X12_factor_19 (v1 s0 : Int) (st : z_St) : Option (Int × z_St) :=
  z_b (J_X12_holds s0 st) fun r3 =>
  z_g (z32 r3.1) (if r3.1 = 0 then
    z_let (z_up r3.2 168 22 v1) fun st5 =>
    some (r3.2 168 22, st5)
  else
    some ((-1), r3.2))
def J_X12_factor (x1 : Int) (st : z_St) : Option (Int × z_St) :=
  z_g (z32 x1) <|
  z_b (J_X12_in x1 0 99 st) fun r1 =>
  z_g (z32 r1) (if r1 = 0 then
    J_X12_factor_19 x1 1 st
  else
    J_X12_factor_19 x1 0 st)
def J_X12_isEither_18 (s0 : Int) (st : z_St) : Option (Int) :=
  z_g (s0 = 0 ∨ s0 = 1) <|
  some s0
def J_X12_isEither_13 (st : z_St) : Option (Int) :=
  J_X12_isEither_18 1 st
def J_X12_isEither (x1 : Int) (st : z_St) : Option (Int) :=
  z_g (z32 x1 ∧ z32 (-1)) (if x1 = (-1) then
    J_X12_isEither_13 st
  else
    z_b (J_X12_isWord x1 st) fun r1 =>
    z_g (z32 r1) (if r1 = 0 then
      J_X12_isEither_18 0 st
    else
      J_X12_isEither_13 st))
def J_X12_price_51 (s0 s1 : Int) (st : z_St) : Option (Int × z_St) :=
  z_b (J_X12_priceOf s1 s0 st) fun r5 =>
  some (r5, st)
def J_X12_price_42 (v2 s0 : Int) (st : z_St) : Option (Int × z_St) :=
  z_g (z32 v2) (if v2 < 0 then
    J_X12_price_51 5 s0 st
  else
    J_X12_price_51 v2 s0 st)
def J_X12_price_22 (v1 v2 s0 : Int) (st : z_St) : Option (Int × z_St) :=
  z_b (J_X12_holds s0 st) fun r3 =>
  z_g (z32 r3.1) (if r3.1 = 0 then
    z_g (z32 v1) (if v1 < 0 then
      J_X12_price_42 v2 5 r3.2
    else
      J_X12_price_42 v2 v1 r3.2)
  else
    some ((-1), r3.2))
def J_X12_price_21 (v1 v2 : Int) (st : z_St) : Option (Int × z_St) :=
  J_X12_price_22 v1 v2 1 st
def J_X12_price (x1 x2 : Int) (st : z_St) : Option (Int × z_St) :=
  z_b (J_X12_isEither x1 st) fun r1 =>
  z_g (z32 r1) (if r1 = 0 then
    J_X12_price_21 x1 x2 st
  else
    z_b (J_X12_isEither x2 st) fun r7 =>
    z_g (z32 r7) (if r7 = 0 then
      J_X12_price_21 x1 x2 st
    else
      J_X12_price_22 x1 x2 0 st))
def J_X12_weight_20 (v2 s0 : Int) (st : z_St) : Option (Int × z_St) :=
  z_b (J_X12_holds s0 st) fun r3 =>
  z_g (z32 r3.1) (if r3.1 = 0 then
    z_b (J_X12_laysTable r3.2) fun st6 =>
    z_b (J_X12_weightOf v2 st6) fun r7 =>
    z_b (J_X12_told r7.1 r7.2) fun r9 =>
    some (r9, r7.2)
  else
    some ((-1), r3.2))
def J_X12_weight (x1 : Int) (st : z_St) : Option (Int × z_St) :=
  z_b (J_X12_apart x1 186 st) fun r1 =>
  z_g (z32 r1.1) (if 0 < r1.1 then
    J_X12_weight_20 r1.1 0 r1.2
  else
    J_X12_weight_20 r1.1 1 r1.2)
def J_X12_weightAnew (x1 : Int) (st : z_St) : Option (Int × z_St) :=
  z_b (J_X12_weight x1 st) fun r1 =>
  some (r1.1, r1.2)
def J_X12_best_93 (v1 v2 v4 s0 s1 : Int) (st : z_St) : Option ((Int × Int) ⊕ Int) :=
  some (.inl (s1 + s0, v4 + 1))
def J_X12_best_88 (v1 v2 v4 s0 : Int) (st : z_St) : Option ((Int × Int) ⊕ Int) :=
  J_X12_best_93 v1 v2 v4 1 s0 st
def J_X12_best_92 (v1 v2 v4 s0 : Int) (st : z_St) : Option ((Int × Int) ⊕ Int) :=
  J_X12_best_93 v1 v2 v4 0 s0 st
def J_X12_best_b38 (v1 v2 v3 v4 : Int) (st : z_St) : Option ((Int × Int) ⊕ Int) :=
  z_g (z32 v4 ∧ z32 (st 168 31)) (if v4 < st 168 31 then
    z_g (0 ≤ v4 ∧ v4 < 780) <|
    z_g (0 ≤ v2 ∧ v2 < 780) <|
    z_g (z64 (st 189 v4) ∧ z64 (st 189 v2)) (if st 189 v4 < st 189 v2 then
      J_X12_best_88 v1 v2 v4 v3 st
    else
      z_g (0 ≤ v4 ∧ v4 < 780) <|
      z_g (0 ≤ v2 ∧ v2 < 780) <|
      z_g (z64 (st 189 v4) ∧ z64 (st 189 v2)) (if st 189 v4 = st 189 v2 then
        z_g (z32 v4 ∧ z32 v2) (if v4 < v2 then
          J_X12_best_88 v1 v2 v4 v3 st
        else
          J_X12_best_92 v1 v2 v4 v3 st)
      else
        J_X12_best_92 v1 v2 v4 v3 st))
  else
    some (.inr v3))
def J_X12_best_126 (v1 v2 : Int) (st : z_St) : Option (Int ⊕ (Unit ⊕ Int)) :=
  some (.inl (v2 + 1))
def J_X12_best_b25 (v1 v2 : Int) (st : z_St) : Option (Int ⊕ (Unit ⊕ Int)) :=
  z_g (z32 v2 ∧ z32 (st 168 31)) (if v2 < st 168 31 then
    z_b (z_iter z_F (fun q9 : (Int × Int) => J_X12_best_b38 v1 v2 q9.1 q9.2 st) (0, 0)) fun lx9 =>
      z_g (0 ≤ v2 ∧ v2 < 780) <|
      z_g (z64 (st 189 v2) ∧ z64 1000000000000000000) (if st 189 v2 < 1000000000000000000 then
        z_g (z32 lx9 ∧ z32 v1) (if lx9 = v1 then
          some (.inr (.inr v2))
        else
          J_X12_best_126 v1 v2 st)
      else
        J_X12_best_126 v1 v2 st)
  else
    some (.inr (.inl ())))
def J_X12_best_10 (v1 s0 : Int) (st : z_St) : Option (Int × z_St) :=
  z_b (J_X12_holds s0 st) fun r1 =>
  z_g (z32 r1.1) (if r1.1 = 0 then
    z_b (J_X12_laysRows r1.2) fun r3 =>
    z_b (z_iter z_F (fun q9 : Int => J_X12_best_b25 v1 q9 r3.2) 0) fun lx11 => match lx11 with
    | .inl y12 =>
      some ((-1), r3.2)
    | .inr y13 =>
      z_g (0 ≤ y13 ∧ y13 < 780) <|
      some (r3.2 190 y13, r3.2)
  else
    some ((-1), r1.2))
def J_X12_best (x1 : Int) (st : z_St) : Option (Int × z_St) :=
  z_g (z32 x1) (if x1 < 0 then
    J_X12_best_10 x1 1 st
  else
    J_X12_best_10 x1 0 st)
def J_X12_end (x1 x2 x3 : Int) (st : z_St) : Option (Int) :=
  some (((20 * x1) + (5 * (x2 - 1))) + x3)
def J_X12_comes_99 (s0 s1 : Int) (st : z_St) : Option (z_St) :=
  z_g (0 ≤ s1 ∧ s1 < 340) <|
  z_let (z_up st 193 s1 s0) fun st5 =>
  some st5
def J_X12_comes_77 (v1 v4 v5 s0 s1 : Int) (st : z_St) : Option (z_St) :=
  z_g (0 ≤ s1 ∧ s1 < 340) <|
  z_let (z_up st 192 s1 s0) fun st3 =>
  z_g (z32 v5) (if v5 = 0 then
    z_g (0 ≤ v1 ∧ v1 < 340) <|
    J_X12_comes_99 (st3 193 v1) v1 st3
  else
    J_X12_comes_99 v4 v1 st3)
def J_X12_comes_55 (v1 v2 v4 s0 : Int) (st : z_St) : Option (z_St) :=
  z_g (z32 s0) (if s0 = 0 then
    z_g (0 ≤ v1 ∧ v1 < 340) <|
    J_X12_comes_77 v1 v4 s0 (st 192 v1) v1 st
  else
    J_X12_comes_77 v1 v4 s0 v2 v1 st)
def J_X12_comes_50 (v1 v2 v4 : Int) (st : z_St) : Option (z_St) :=
  J_X12_comes_55 v1 v2 v4 1 st
def J_X12_comes_54 (v1 v2 v4 : Int) (st : z_St) : Option (z_St) :=
  J_X12_comes_55 v1 v2 v4 0 st
def J_X12_comes (x1 x2 x4 : Int) (st : z_St) : Option (z_St) :=
  z_g (z64 x2 ∧ z64 1000000000000000000) (if x2 < 1000000000000000000 then
    z_g (0 ≤ x1 ∧ x1 < 340) <|
    z_g (z32 (st 193 x1)) (if st 193 x1 = 0 then
      J_X12_comes_50 x1 x2 x4 st
    else
      z_g (0 ≤ x1 ∧ x1 < 340) <|
      z_g (z64 x2 ∧ z64 (st 192 x1)) (if x2 < st 192 x1 then
        J_X12_comes_50 x1 x2 x4 st
      else
        z_g (0 ≤ x1 ∧ x1 < 340) <|
        z_g (z64 x2 ∧ z64 (st 192 x1)) (if x2 = st 192 x1 then
          z_g (0 ≤ x1 ∧ x1 < 340) <|
          z_g (z32 x4 ∧ z32 (st 193 x1)) (if x4 < st 193 x1 then
            J_X12_comes_50 x1 x2 x4 st
          else
            J_X12_comes_54 x1 x2 x4 st)
        else
          J_X12_comes_54 x1 x2 x4 st)))
  else
    J_X12_comes_54 x1 x2 x4 st)
def J_X12_laysEnds_b2 (v1 v2 : Int) (st : z_St) : Option ((Int × z_St) ⊕ z_St) :=
  z_g (z32 v2 ∧ z32 20) (if v2 < 20 then
    z_g (0 ≤ (20 * v1) + v2 ∧ (20 * v1) + v2 < 340) <|
    z_let (z_up st 193 ((20 * v1) + v2) 0) fun st1 =>
    z_g (0 ≤ (20 * v1) + v2 ∧ (20 * v1) + v2 < 340) <|
    z_let (z_up st1 192 ((20 * v1) + v2) 1000000000000000000) fun st2 =>
    z_g ((0 ≤ (20 * v1) + v2 ∧ (20 * v1) + v2 < 340) ∧ ((0 : Int) = 0 ∨ (0 : Int) = 1)) <|
    z_let (z_up st2 194 ((20 * v1) + v2) 0) fun st3 =>
    some (.inl (v2 + 1, st3))
  else
    some (.inr st))
def J_X12_laysEnds_181 (v1 v2 v3 v4 : Int) (st : z_St) : Option ((Int × z_St) ⊕ z_St) :=
  some (.inl (v4 + 1, st))
def J_X12_laysEnds_b100 (v1 v2 v3 v4 : Int) (st : z_St) : Option ((Int × z_St) ⊕ z_St) :=
  z_g (z32 v4 ∧ z32 15) (if v4 < 15 then
    z_g (0 ≤ (20 * v3) + v4 ∧ (20 * v3) + v4 < 340) <|
    z_g (z32 (st 194 ((20 * v3) + v4))) (if st 194 ((20 * v3) + v4) = 0 then
      J_X12_laysEnds_181 v1 v2 v3 v4 st
    else
      z_g (z32 v4 ∧ z32 5 ∧ (5 : Int) ≠ 0) <|
      z_b (J_X12_end v1 ((v4.tdiv 5) + 2) v2 st) fun r14 =>
      z_g (0 ≤ (20 * v3) + v4 ∧ (20 * v3) + v4 < 340) <|
      z_b (J_X12_tableOf v2 v3 v1 st) fun r17 =>
      z_g (z32 v4 ∧ z32 5 ∧ (5 : Int) ≠ 0) <|
      z_b (J_X12_dear (v4.tmod 5) v2 st) fun r19 =>
      z_g (0 ≤ (20 * v3) + v4 ∧ (20 * v3) + v4 < 340) <|
      z_b (J_X12_comes r14 (((st 192 ((20 * v3) + v4)) + r17) + r19) (((10 * (st 193 ((20 * v3) + v4))) + v2) + 1) st) fun st23 =>
      J_X12_laysEnds_181 v1 v2 v3 v4 st23)
  else
    some (.inr st))
def J_X12_laysEnds_b92 (v1 v2 v3 : Int) (st : z_St) : Option ((Int × z_St) ⊕ z_St) :=
  z_g (z32 v3 ∧ z32 v1) (if v3 < v1 then
    z_b (z_iter z_F (fun q9 : (Int × z_St) => J_X12_laysEnds_b100 v1 v2 v3 q9.1 q9.2) (0, st)) fun lx24 =>
      some (.inl (v3 + 1, lx24))
  else
    some (.inr st))
def J_X12_laysEnds_b54 (v1 v2 : Int) (st : z_St) : Option ((Int × z_St) ⊕ z_St) :=
  z_g (z32 v2 ∧ z32 (st 168 18)) (if v2 < st 168 18 then
    z_b (J_X12_end v1 1 v2 st) fun r5 =>
    z_b (J_X12_tableOf v2 0 v1 st) fun r7 =>
    z_b (J_X12_dear 5 v2 st) fun r9 =>
    z_b (J_X12_comes r5 (r7 + r9) (v2 + 1) st) fun st12 =>
    z_b (z_iter z_F (fun q9 : (Int × z_St) => J_X12_laysEnds_b92 v1 v2 q9.1 q9.2) (1, st12)) fun lx25 =>
      some (.inl (v2 + 1, lx25))
  else
    some (.inr st))
def J_X12_laysEnds (x1 : Int) (st : z_St) : Option (z_St) :=
  z_b (z_iter z_F (fun q9 : (Int × z_St) => J_X12_laysEnds_b2 x1 q9.1 q9.2) (0, st)) fun lx4 =>
    z_b (z_iter z_F (fun q9 : (Int × z_St) => J_X12_laysEnds_b54 x1 q9.1 q9.2) (0, lx4)) fun lx26 =>
      some lx26
def J_X12_isAhead_52 (s0 : Int) (st : z_St) : Option (Int) :=
  z_g (s0 = 0 ∨ s0 = 1) <|
  some s0
def J_X12_isAhead_47 (st : z_St) : Option (Int) :=
  J_X12_isAhead_52 1 st
def J_X12_isAhead_51 (st : z_St) : Option (Int) :=
  J_X12_isAhead_52 0 st
def J_X12_isAhead (x1 x2 : Int) (st : z_St) : Option (Int) :=
  z_g (0 ≤ x1 ∧ x1 < 340) <|
  z_g (0 ≤ x2 ∧ x2 < 340) <|
  z_g (z64 (st 192 x1) ∧ z64 (st 192 x2)) (if st 192 x1 < st 192 x2 then
    J_X12_isAhead_47 st
  else
    z_g (0 ≤ x1 ∧ x1 < 340) <|
    z_g (0 ≤ x2 ∧ x2 < 340) <|
    z_g (z64 (st 192 x1) ∧ z64 (st 192 x2)) (if st 192 x1 = st 192 x2 then
      z_g (0 ≤ x1 ∧ x1 < 340) <|
      z_g (0 ≤ x2 ∧ x2 < 340) <|
      z_g (z32 (st 193 x1) ∧ z32 (st 193 x2)) (if st 193 x1 < st 193 x2 then
        J_X12_isAhead_47 st
      else
        J_X12_isAhead_51 st)
    else
      J_X12_isAhead_51 st))
def J_X12_drops_b8 (v1 v2 v4 v5 v7 : Int) (st : z_St) : Option ((Int × Int) ⊕ Int) :=
  z_g (z32 v7 ∧ z32 20) (if v7 < 20 then
    z_g (0 ≤ (20 * v1) + v7 ∧ (20 * v1) + v7 < 340) <|
    z_b (J_X12_least v5 (st 192 ((20 * v1) + v7)) st) fun r2 =>
    some (.inl (r2, v7 + 1))
  else
    some (.inr v5))
def J_X12_drops_111 (v1 v2 v4 v5 v7 v8 v10 s0 s1 : Int) (st : z_St) : Option ((Int × Int) ⊕ Int) :=
  some (.inl (s1 + s0, v10 + 1))
def J_X12_drops_110 (v1 v2 v4 v5 v7 v8 v10 s0 : Int) (st : z_St) : Option ((Int × Int) ⊕ Int) :=
  J_X12_drops_111 v1 v2 v4 v5 v7 v8 v10 0 s0 st
def J_X12_drops_b66 (v1 v2 v4 v5 v7 v8 v9 v10 : Int) (st : z_St) : Option ((Int × Int) ⊕ Int) :=
  z_g (z32 v10 ∧ z32 20) (if v10 < 20 then
    z_g (0 ≤ (20 * v1) + v10 ∧ (20 * v1) + v10 < 340) <|
    z_g (z32 (st 193 ((20 * v1) + v10))) (if 0 < st 193 ((20 * v1) + v10) then
      z_b (J_X12_isAhead ((20 * v1) + v10) v8 st) fun r6 =>
      z_g (z32 r6) (if r6 = 0 then
        J_X12_drops_110 v1 v2 v4 v5 v7 v8 v10 v9 st
      else
        J_X12_drops_111 v1 v2 v4 v5 v7 v8 v10 1 v9 st)
    else
      J_X12_drops_110 v1 v2 v4 v5 v7 v8 v10 v9 st)
  else
    some (.inr v9))
def J_X12_drops_201 (v1 v2 v4 v5 v7 s0 s1 : Int) (st : z_St) : Option ((Int × z_St) ⊕ z_St) :=
  z_let (z_up st 168 36 (s1 + s0)) fun st11 =>
  some (.inl (v7 + 1, st11))
def J_X12_drops_200 (v1 v2 v4 v5 v7 s0 : Int) (st : z_St) : Option ((Int × z_St) ⊕ z_St) :=
  J_X12_drops_201 v1 v2 v4 v5 v7 0 s0 st
def J_X12_drops_175 (v1 v2 v4 v5 v7 v8 v10 s0 s1 : Int) (st : z_St) : Option ((Int × z_St) ⊕ z_St) :=
  z_g ((0 ≤ s1 ∧ s1 < 340) ∧ ((s0 : Int) = 0 ∨ (s0 : Int) = 1)) <|
  z_let (z_up st 194 s1 s0) fun st10 =>
  z_g (z32 v10) (if v10 = 0 then
    J_X12_drops_200 v1 v2 v4 v5 v7 (st10 168 36) st10
  else
    z_g (0 ≤ v8 ∧ v8 < 340) <|
    z_g (z32 (st10 194 v8)) (if st10 194 v8 = 0 then
      J_X12_drops_201 v1 v2 v4 v5 v7 1 (st10 168 36) st10
    else
      J_X12_drops_200 v1 v2 v4 v5 v7 (st10 168 36) st10))
def J_X12_drops_174 (v1 v2 v4 v5 v7 v8 v10 s0 : Int) (st : z_St) : Option ((Int × z_St) ⊕ z_St) :=
  J_X12_drops_175 v1 v2 v4 v5 v7 v8 v10 0 s0 st
def J_X12_drops_135 (v1 v2 v4 v5 v7 v8 v9 s0 : Int) (st : z_St) : Option ((Int × z_St) ⊕ z_St) :=
  z_g (z32 s0) (if s0 = 0 then
    J_X12_drops_174 v1 v2 v4 v5 v7 v8 s0 v8 st
  else
    z_g (0 ≤ v8 ∧ v8 < 340) <|
    z_g (z64 ((st 192 v8) - v5) ∧ z64 v2) (if v2 < (st 192 v8) - v5 then
      J_X12_drops_174 v1 v2 v4 v5 v7 v8 s0 v8 st
    else
      z_g (z32 v9 ∧ z32 v4) (if v9 < v4 then
        J_X12_drops_175 v1 v2 v4 v5 v7 v8 s0 1 v8 st
      else
        J_X12_drops_174 v1 v2 v4 v5 v7 v8 s0 v8 st)))
def J_X12_drops_b44 (v1 v2 v4 v5 v7 : Int) (st : z_St) : Option ((Int × z_St) ⊕ z_St) :=
  z_g (z32 v7 ∧ z32 20) (if v7 < 20 then
    z_b (z_iter z_F (fun q9 : (Int × Int) => J_X12_drops_b66 v1 v2 v4 v5 v7 ((20 * v1) + v7) q9.1 q9.2 st) (0, 0)) fun lx8 =>
      z_g (0 ≤ (20 * v1) + v7 ∧ (20 * v1) + v7 < 340) <|
      z_g (z32 (st 193 ((20 * v1) + v7))) (if 0 < st 193 ((20 * v1) + v7) then
        J_X12_drops_135 v1 v2 v4 v5 v7 ((20 * v1) + v7) lx8 1 st
      else
        J_X12_drops_135 v1 v2 v4 v5 v7 ((20 * v1) + v7) lx8 0 st)
  else
    some (.inr st))
def J_X12_drops (x1 x2 x4 : Int) (st : z_St) : Option (z_St) :=
  z_b (z_iter z_F (fun q9 : (Int × Int) => J_X12_drops_b8 x1 x2 x4 q9.1 q9.2 st) (1000000000000000000, 0)) fun lx4 =>
    z_b (z_iter z_F (fun q9 : (Int × z_St) => J_X12_drops_b44 x1 x2 x4 lx4 q9.1 q9.2) (0, st)) fun lx14 =>
      some lx14
def J_X12_found_b53 (v1 v3 v4 v5 : Int) (st : z_St) : Option ((Int × z_St) ⊕ z_St) :=
  z_g (z32 v5 ∧ z32 (st 168 2)) (if st 168 2 < v5 then
    some (.inr st)
  else
    z_b (J_X12_laysEnds v5 st) fun st7 =>
    z_b (J_X12_drops v5 v1 v3 st7) fun st9 =>
    some (.inl (v5 + 1, st9)))
def J_X12_found_230 (v4 v5 v8 s0 : Int) (st : z_St) : Option ((Int × Int × Int) ⊕ (Int × Int)) :=
  some (.inl (v5, s0, v8 + 1))
def J_X12_found_211 (v4 v7 v8 v9 v12 s0 : Int) (st : z_St) : Option ((Int × Int × Int) ⊕ (Int × Int)) :=
  z_g (z32 v12) (if v12 = 0 then
    J_X12_found_230 v4 s0 v8 v7 st
  else
    z_g (0 ≤ v9 ∧ v9 < 340) <|
    J_X12_found_230 v4 s0 v8 (st 193 v9) st)
def J_X12_found_197 (v4 v5 v7 v8 v9 v10 s0 : Int) (st : z_St) : Option ((Int × Int × Int) ⊕ (Int × Int)) :=
  z_g (z32 s0) (if s0 = 0 then
    J_X12_found_211 v4 v7 v8 v9 s0 v5 st
  else
    J_X12_found_211 v4 v7 v8 v9 s0 v10 st)
def J_X12_found_196 (v4 v5 v7 v8 v9 v10 : Int) (st : z_St) : Option ((Int × Int × Int) ⊕ (Int × Int)) :=
  J_X12_found_197 v4 v5 v7 v8 v9 v10 0 st
def J_X12_found_192 (v4 v5 v7 v8 v9 v10 : Int) (st : z_St) : Option ((Int × Int × Int) ⊕ (Int × Int)) :=
  J_X12_found_197 v4 v5 v7 v8 v9 v10 1 st
def J_X12_found_152 (v4 v5 v7 v8 v9 s0 : Int) (st : z_St) : Option ((Int × Int × Int) ⊕ (Int × Int)) :=
  z_g (0 ≤ v9 ∧ v9 < 340) <|
  z_g (z32 (st 194 v9)) (if st 194 v9 = 0 then
    J_X12_found_196 v4 v5 v7 v8 v9 s0 st
  else
    z_g (z64 s0 ∧ z64 v5) (if s0 < v5 then
      J_X12_found_192 v4 v5 v7 v8 v9 s0 st
    else
      z_g (z64 s0 ∧ z64 v5) (if s0 = v5 then
        z_g (0 ≤ v9 ∧ v9 < 340) <|
        z_g (z32 (st 193 v9) ∧ z32 v7) (if st 193 v9 < v7 then
          J_X12_found_192 v4 v5 v7 v8 v9 s0 st
        else
          J_X12_found_196 v4 v5 v7 v8 v9 s0 st)
      else
        J_X12_found_196 v4 v5 v7 v8 v9 s0 st)))
def J_X12_found_b93 (v4 v5 v7 v8 : Int) (st : z_St) : Option ((Int × Int × Int) ⊕ (Int × Int)) :=
  z_g (z32 v8 ∧ z32 20) (if v8 < 20 then
    z_g (z32 (st 168 2)) (if 0 < st 168 2 then
      z_g (0 ≤ (20 * (st 168 2)) + v8 ∧ (20 * (st 168 2)) + v8 < 340) <|
      z_g (z32 (st 194 ((20 * (st 168 2)) + v8))) (if st 194 ((20 * (st 168 2)) + v8) = 0 then
        J_X12_found_152 v4 v5 v7 v8 ((20 * (st 168 2)) + v8) 1000000000000000000 st
      else
        z_g (0 ≤ (20 * (st 168 2)) + v8 ∧ (20 * (st 168 2)) + v8 < 340) <|
        z_g (z32 v8 ∧ z32 5 ∧ (5 : Int) ≠ 0) <|
        z_b (J_X12_dear (v8.tmod 5) 5 st) fun r16 =>
        J_X12_found_152 v4 v5 v7 v8 ((20 * (st 168 2)) + v8) ((st 192 ((20 * (st 168 2)) + v8)) + r16) st)
    else
      some (.inr (v5, v7)))
  else
    some (.inr (v5, v7)))
def J_X12_found_268 (s0 : Int) (st : z_St) : Option (Int × z_St) :=
  some (s0, st)
def J_X12_found_31 (v1 v3 v4 s0 : Int) (st : z_St) : Option (Int × z_St) :=
  z_b (J_X12_holds s0 st) fun r1 =>
  z_g (z32 r1.1) (if r1.1 = 0 then
    z_b (J_X12_laysTable r1.2) fun st4 =>
    z_let (z_up st4 168 36 0) fun st5 =>
    z_b (z_iter z_F (fun q9 : (Int × z_St) => J_X12_found_b53 v1 v3 v4 q9.1 q9.2) (1, st5)) fun lx10 =>
      z_b (z_iter z_F (fun q9 : (Int × Int × Int) => J_X12_found_b93 v4 q9.1 q9.2.1 q9.2.2 lx10) (1000000000000000000, (-1), 0)) fun lx18 =>
        z_g (z32 v4 ∧ z32 2) (if v4 = 2 then
          J_X12_found_268 (lx10 168 36) lx10
        else
          z_g (z32 v4) (if v4 = 0 then
            z_g (z32 lx18.2) <|
            J_X12_found_268 lx18.2 lx10
          else
            z_b (J_X12_told lx18.1 lx10) fun r19 =>
            J_X12_found_268 r19 lx10))
  else
    some ((-1), r1.2))
def J_X12_found_26 (v1 v3 v4 : Int) (st : z_St) : Option (Int × z_St) :=
  J_X12_found_31 v1 v3 v4 1 st
def J_X12_found (x1 x3 x4 : Int) (st : z_St) : Option (Int × z_St) :=
  z_g (z64 x1 ∧ z64 0) (if x1 < 0 then
    J_X12_found_26 x1 x3 x4 st
  else
    z_g (z32 x3 ∧ z32 1) (if x3 < 1 then
      J_X12_found_26 x1 x3 x4 st
    else
      z_g (z32 x4) <|
      z_b (J_X12_in x4 0 2 st) fun r21 =>
      z_g (z32 r21) (if r21 = 0 then
        J_X12_found_26 x1 x3 x4 st
      else
        J_X12_found_31 x1 x3 x4 0 st)))
def J_X12_row5 (x1 x2 x3 : Int) (st : z_St) : Option (Int) :=
  some (((85 * x1) + (5 * x2)) + x3)
def J_X12_laysBefore_b75 (v1 v2 v3 v6 v4 v7 : Int) (st : z_St) : Option ((Int × Int) ⊕ Int) :=
  z_g (z32 v7 ∧ z32 (st 168 18)) (if v7 < st 168 18 then
    z_b (J_X12_row5 (v1 - 1) v6 v7 st) fun r5 =>
    z_g (0 ≤ r5 ∧ r5 < 425) <|
    z_b (J_X12_tableOf v3 v6 v2 st) fun r8 =>
    z_b (J_X12_dear v7 v3 st) fun r10 =>
    z_b (J_X12_least v4 (((st 195 r5) + r8) + r10) st) fun r12 =>
    some (.inl (r12, v7 + 1))
  else
    some (.inr v4))
def J_X12_laysBefore_b61 (v1 v2 v3 v4 v6 : Int) (st : z_St) : Option ((Int × Int) ⊕ Int) :=
  z_g (z32 v6 ∧ z32 v2) (if v6 < v2 then
    z_g (z32 v1 ∧ z32 1) (if 1 < v1 then
      z_b (z_iter z_F (fun q9 : (Int × Int) => J_X12_laysBefore_b75 v1 v2 v3 v6 q9.1 q9.2 st) (v4, 0)) fun lx14 =>
        some (.inl (lx14, v6 + 1))
    else
      some (.inr v4))
  else
    some (.inr v4))
def J_X12_laysBefore_165 (v1 v2 v3 s0 s1 : Int) (st : z_St) : Option ((Int × z_St) ⊕ z_St) :=
  z_g (0 ≤ s1 ∧ s1 < 425) <|
  z_let (z_up st 195 s1 s0) fun st18 =>
  some (.inl (v3 + 1, st18))
def J_X12_laysBefore_56 (v1 v2 v3 s0 : Int) (st : z_St) : Option ((Int × z_St) ⊕ z_St) :=
  z_b (z_iter z_F (fun q9 : (Int × Int) => J_X12_laysBefore_b61 v1 v2 v3 q9.1 q9.2 st) (s0, 1)) fun lx15 =>
    z_b (J_X12_row5 v1 v2 v3 st) fun r16 =>
    z_g (z64 lx15 ∧ z64 1000000000000000000) (if lx15 < 1000000000000000000 then
      J_X12_laysBefore_165 v1 v2 v3 lx15 r16 st
    else
      J_X12_laysBefore_165 v1 v2 v3 1000000000000000000 r16 st)
def J_X12_laysBefore_53 (v1 v2 v3 : Int) (st : z_St) : Option ((Int × z_St) ⊕ z_St) :=
  J_X12_laysBefore_56 v1 v2 v3 1000000000000000000 st
def J_X12_laysBefore_b19 (v1 v2 v3 : Int) (st : z_St) : Option ((Int × z_St) ⊕ z_St) :=
  z_g (z32 v3 ∧ z32 (st 168 18)) (if v3 < st 168 18 then
    z_g (z32 v1 ∧ z32 1) (if v1 = 1 then
      z_g (z32 v2) (if 0 < v2 then
        z_b (J_X12_tableOf v3 0 v2 st) fun r1 =>
        z_b (J_X12_dear 5 v3 st) fun r3 =>
        J_X12_laysBefore_56 v1 v2 v3 (r1 + r3) st
      else
        J_X12_laysBefore_53 v1 v2 v3 st)
    else
      J_X12_laysBefore_53 v1 v2 v3 st)
  else
    some (.inr st))
def J_X12_laysBefore_b9 (v1 v2 : Int) (st : z_St) : Option ((Int × z_St) ⊕ z_St) :=
  z_g (z32 v2 ∧ z32 (st 168 2)) (if st 168 2 < v2 then
    some (.inr st)
  else
    z_b (z_iter z_F (fun q9 : (Int × z_St) => J_X12_laysBefore_b19 v1 v2 q9.1 q9.2) (0, st)) fun lx19 =>
      some (.inl (v2 + 1, lx19)))
def J_X12_laysBefore_b2 (v1 : Int) (st : z_St) : Option ((Int × z_St) ⊕ z_St) :=
  z_g (z32 v1 ∧ z32 4) (if 4 < v1 then
    some (.inr st)
  else
    z_b (z_iter z_F (fun q9 : (Int × z_St) => J_X12_laysBefore_b9 v1 q9.1 q9.2) (0, st)) fun lx20 =>
      some (.inl (v1 + 1, lx20)))
def J_X12_laysBefore (st : z_St) : Option (z_St) :=
  z_b (z_iter z_F (fun q9 : (Int × z_St) => J_X12_laysBefore_b2 q9.1 q9.2) (1, st)) fun lx21 =>
    some lx21
def J_X12_laysBehind_b74 (v1 v2 v3 v6 v4 v7 : Int) (st : z_St) : Option ((Int × Int) ⊕ Int) :=
  z_g (z32 v7 ∧ z32 (st 168 18)) (if v7 < st 168 18 then
    z_b (J_X12_row5 (v1 - 1) v6 v7 st) fun r3 =>
    z_g (0 ≤ r3 ∧ r3 < 425) <|
    z_b (J_X12_tableOf v7 v2 v6 st) fun r6 =>
    z_b (J_X12_dear v3 v7 st) fun r8 =>
    z_b (J_X12_least v4 (((st 196 r3) + r6) + r8) st) fun r10 =>
    some (.inl (r10, v7 + 1))
  else
    some (.inr v4))
def J_X12_laysBehind_b58 (v1 v2 v3 v4 v6 : Int) (st : z_St) : Option ((Int × Int) ⊕ Int) :=
  z_g (z32 v6 ∧ z32 (st 168 2)) (if st 168 2 < v6 then
    some (.inr v4)
  else
    z_g (z32 v1) (if 0 < v1 then
      z_b (z_iter z_F (fun q9 : (Int × Int) => J_X12_laysBehind_b74 v1 v2 v3 v6 q9.1 q9.2 st) (v4, 0)) fun lx12 =>
        some (.inl (lx12, v6 + 1))
    else
      some (.inr v4)))
def J_X12_laysBehind_165 (v1 v2 v3 s0 s1 : Int) (st : z_St) : Option ((Int × z_St) ⊕ z_St) :=
  z_g (0 ≤ s1 ∧ s1 < 425) <|
  z_let (z_up st 196 s1 s0) fun st16 =>
  some (.inl (v3 + 1, st16))
def J_X12_laysBehind_51 (v1 v2 v3 s0 : Int) (st : z_St) : Option ((Int × z_St) ⊕ z_St) :=
  z_b (z_iter z_F (fun q9 : (Int × Int) => J_X12_laysBehind_b58 v1 v2 v3 q9.1 q9.2 st) (s0, v2 + 1)) fun lx13 =>
    z_b (J_X12_row5 v1 v2 v3 st) fun r14 =>
    z_g (z64 lx13 ∧ z64 1000000000000000000) (if lx13 < 1000000000000000000 then
      J_X12_laysBehind_165 v1 v2 v3 lx13 r14 st
    else
      J_X12_laysBehind_165 v1 v2 v3 1000000000000000000 r14 st)
def J_X12_laysBehind_48 (v1 v2 v3 : Int) (st : z_St) : Option ((Int × z_St) ⊕ z_St) :=
  J_X12_laysBehind_51 v1 v2 v3 1000000000000000000 st
def J_X12_laysBehind_b19 (v1 v2 v3 : Int) (st : z_St) : Option ((Int × z_St) ⊕ z_St) :=
  z_g (z32 v3 ∧ z32 (st 168 18)) (if v3 < st 168 18 then
    z_g (z32 v1) (if v1 = 0 then
      z_g (z32 v2 ∧ z32 (st 168 2)) (if v2 = st 168 2 then
        z_b (J_X12_dear v3 5 st) fun r1 =>
        J_X12_laysBehind_51 v1 v2 v3 r1 st
      else
        J_X12_laysBehind_48 v1 v2 v3 st)
    else
      J_X12_laysBehind_48 v1 v2 v3 st)
  else
    some (.inr st))
def J_X12_laysBehind_b9 (v1 v2 : Int) (st : z_St) : Option ((Int × z_St) ⊕ z_St) :=
  z_g (z32 v2 ∧ z32 (st 168 2)) (if st 168 2 < v2 then
    some (.inr st)
  else
    z_b (z_iter z_F (fun q9 : (Int × z_St) => J_X12_laysBehind_b19 v1 v2 q9.1 q9.2) (0, st)) fun lx17 =>
      some (.inl (v2 + 1, lx17)))
def J_X12_laysBehind_b2 (v1 : Int) (st : z_St) : Option ((Int × z_St) ⊕ z_St) :=
  z_g (z32 v1 ∧ z32 3) (if 3 < v1 then
    some (.inr st)
  else
    z_b (z_iter z_F (fun q9 : (Int × z_St) => J_X12_laysBehind_b9 v1 q9.1 q9.2) (0, st)) fun lx18 =>
      some (.inl (v1 + 1, lx18)))
def J_X12_laysBehind (st : z_St) : Option (z_St) :=
  z_b (z_iter z_F (fun q9 : (Int × z_St) => J_X12_laysBehind_b2 q9.1 q9.2) (0, st)) fun lx19 =>
    some lx19
def J_X12_rest_b8 (v1 v2 v3 v4 v6 : Int) (st : z_St) : Option ((Int × Int) ⊕ Int) :=
  z_g (z32 v6 ∧ z32 v3) (if v3 < v6 then
    some (.inr v4)
  else
    z_b (J_X12_row5 v6 v2 v1 st) fun r1 =>
    z_g (0 ≤ r1 ∧ r1 < 425) <|
    z_b (J_X12_least v4 (st 196 r1) st) fun r4 =>
    some (.inl (r4, v6 + 1)))
def J_X12_rest (x1 x2 x3 : Int) (st : z_St) : Option (Int) :=
  z_b (z_iter z_F (fun q9 : (Int × Int) => J_X12_rest_b8 x1 x2 x3 q9.1 q9.2 st) (1000000000000000000, 0)) fun lx6 =>
    some lx6
def J_X12_through_b42 (v1 v2 v3 v6 v4 v7 : Int) (st : z_St) : Option ((Int × Int) ⊕ Int) :=
  z_g (z32 v7 ∧ z32 (st 168 18)) (if v7 < st 168 18 then
    z_b (J_X12_row5 v6 v2 v7 st) fun r5 =>
    z_g (0 ≤ r5 ∧ r5 < 425) <|
    z_b (J_X12_dear v7 v1 st) fun r8 =>
    z_b (J_X12_rest v1 v3 (3 - v6) st) fun r10 =>
    z_b (J_X12_least v4 (((st 195 r5) + r8) + r10) st) fun r12 =>
    some (.inl (r12, v7 + 1))
  else
    some (.inr v4))
def J_X12_through_b29 (v1 v2 v3 v4 v6 : Int) (st : z_St) : Option ((Int × Int) ⊕ Int) :=
  z_g (z32 v6 ∧ z32 3) (if 3 < v6 then
    some (.inr v4)
  else
    z_g (z32 v2) (if 0 < v2 then
      z_b (z_iter z_F (fun q9 : (Int × Int) => J_X12_through_b42 v1 v2 v3 v6 q9.1 q9.2 st) (v4, 0)) fun lx14 =>
        some (.inl (lx14, v6 + 1))
    else
      some (.inr v4)))
def J_X12_through_133 (s0 : Int) (st : z_St) : Option (Int) :=
  some s0
def J_X12_through_24 (v1 v2 v3 s0 : Int) (st : z_St) : Option (Int) :=
  z_b (z_iter z_F (fun q9 : (Int × Int) => J_X12_through_b29 v1 v2 v3 q9.1 q9.2 st) (s0, 1)) fun lx15 =>
    z_b (J_X12_tableOf v1 v2 v3 st) fun r16 =>
    z_g (z64 (lx15 + r16) ∧ z64 1000000000000000000) (if lx15 + r16 < 1000000000000000000 then
      J_X12_through_133 (lx15 + r16) st
    else
      J_X12_through_133 1000000000000000000 st)
def J_X12_through (x1 x2 x3 : Int) (st : z_St) : Option (Int) :=
  z_g (z32 x2) (if x2 = 0 then
    z_b (J_X12_dear 5 x1 st) fun r1 =>
    z_b (J_X12_rest x1 x3 3 st) fun r3 =>
    J_X12_through_24 x1 x2 x3 (r1 + r3) st
  else
    J_X12_through_24 x1 x2 x3 1000000000000000000 st)
def J_X12_laysArcs_93 (v1 v2 v3 v4 s0 s1 : Int) (st : z_St) : Option ((Int × z_St) ⊕ z_St) :=
  z_g (0 ≤ s1 ∧ s1 < 1445) <|
  z_let (z_up st 197 s1 s0) fun st12 =>
  some (.inl (v4 + 1, st12))
def J_X12_laysArcs_b38 (v1 v2 v3 v4 : Int) (st : z_St) : Option ((Int × z_St) ⊕ z_St) :=
  z_g (z32 v4 ∧ z32 (st 168 2)) (if st 168 2 < v4 then
    some (.inr st)
  else
    z_b (J_X12_through v2 v3 v4 st) fun r7 =>
    z_b (J_X12_span v2 v3 v4 st) fun r9 =>
    z_g (z64 r7 ∧ z64 1000000000000000000) (if r7 < 1000000000000000000 then
      z_g (0 ≤ v1 ∧ v1 < 780) <|
      J_X12_laysArcs_93 v1 v2 v3 v4 (r7 - (st 189 v1)) r9 st
    else
      J_X12_laysArcs_93 v1 v2 v3 v4 1000000000000000000 r9 st))
def J_X12_laysArcs_b25 (v1 v2 v3 : Int) (st : z_St) : Option ((Int × z_St) ⊕ z_St) :=
  z_g (z32 v3 ∧ z32 (st 168 2)) (if v3 < st 168 2 then
    z_b (z_iter z_F (fun q9 : (Int × z_St) => J_X12_laysArcs_b38 v1 v2 v3 q9.1 q9.2) (v3 + 1, st)) fun lx13 =>
      some (.inl (v3 + 1, lx13))
  else
    some (.inr st))
def J_X12_laysArcs_b15 (v1 v2 : Int) (st : z_St) : Option ((Int × z_St) ⊕ z_St) :=
  z_g (z32 v2 ∧ z32 (st 168 18)) (if v2 < st 168 18 then
    z_b (z_iter z_F (fun q9 : (Int × z_St) => J_X12_laysArcs_b25 v1 v2 q9.1 q9.2) (0, st)) fun lx14 =>
      some (.inl (v2 + 1, lx14))
  else
    some (.inr st))
def J_X12_laysArcs (st : z_St) : Option (Int × z_St) :=
  z_b (J_X12_laysRows st) fun r1 =>
  z_b (J_X12_laysBefore r1.2) fun st4 =>
  z_b (J_X12_laysBehind st4) fun st6 =>
  z_b (z_iter z_F (fun q9 : (Int × z_St) => J_X12_laysArcs_b15 r1.1 q9.1 q9.2) (0, st6)) fun lx15 =>
    some (r1.1, lx15)
def J_X12_isArc_42 (s0 : Int) (st : z_St) : Option (Int) :=
  z_g (s0 = 0 ∨ s0 = 1) <|
  some s0
def J_X12_isArc_41 (st : z_St) : Option (Int) :=
  J_X12_isArc_42 0 st
def J_X12_isArc (x1 x2 x3 x4 : Int) (st : z_St) : Option (Int) :=
  z_b (J_X12_span x1 x2 x3 st) fun r1 =>
  z_g (0 ≤ r1 ∧ r1 < 1445) <|
  z_g (z64 (st 197 r1) ∧ z64 1000000000000000000) (if st 197 r1 < 1000000000000000000 then
    z_b (J_X12_span x1 x2 x3 st) fun r4 =>
    z_g (0 ≤ r4 ∧ r4 < 1445) <|
    z_g (z64 (st 197 r4) ∧ z64 x4) (if x4 < st 197 r4 then
      J_X12_isArc_41 st
    else
      J_X12_isArc_42 1 st)
  else
    J_X12_isArc_41 st)
def J_X12_arcs_100 (v1 v4 v5 v6 v7 s0 s1 : Int) (st : z_St) : Option ((Int × Int) ⊕ Int) :=
  some (.inl (s1 + s0, v7 + 1))
def J_X12_arcs_b71 (v1 v4 v5 v6 v3 v7 : Int) (st : z_St) : Option ((Int × Int) ⊕ Int) :=
  z_g (z32 v7 ∧ z32 (st 168 2)) (if st 168 2 < v7 then
    some (.inr v3)
  else
    z_b (J_X12_isArc v5 v6 v7 v1 st) fun r5 =>
    z_g (z32 r5) (if r5 = 0 then
      J_X12_arcs_100 v1 v4 v5 v6 v7 0 v3 st
    else
      J_X12_arcs_100 v1 v4 v5 v6 v7 1 v3 st))
def J_X12_arcs_b56 (v1 v4 v5 v3 v6 : Int) (st : z_St) : Option ((Int × Int) ⊕ Int) :=
  z_g (z32 v6 ∧ z32 (st 168 2)) (if v6 < st 168 2 then
    z_b (z_iter z_F (fun q9 : (Int × Int) => J_X12_arcs_b71 v1 v4 v5 v6 q9.1 q9.2 st) (v3, v6 + 1)) fun lx7 =>
      some (.inl (lx7, v6 + 1))
  else
    some (.inr v3))
def J_X12_arcs_b39 (v1 v4 v3 v5 : Int) (st : z_St) : Option ((Int × Int) ⊕ Int) :=
  z_g (z32 v5 ∧ z32 (st 168 18)) (if v5 < st 168 18 then
    z_g (z32 v4) (if v4 = 0 then
      some (.inr v3)
    else
      z_b (z_iter z_F (fun q9 : (Int × Int) => J_X12_arcs_b56 v1 v4 v5 q9.1 q9.2 st) (v3, 0)) fun lx8 =>
        some (.inl (lx8, v5 + 1)))
  else
    some (.inr v3))
def J_X12_arcs_34 (v1 v3 s0 : Int) (st : z_St) : Option (Int × z_St) :=
  z_b (z_iter z_F (fun q9 : (Int × Int) => J_X12_arcs_b39 v1 s0 q9.1 q9.2 st) (v3, 0)) fun lx9 =>
    some (lx9, st)
def J_X12_arcs_12 (v1 s0 : Int) (st : z_St) : Option (Int × z_St) :=
  z_b (J_X12_holds s0 st) fun r1 =>
  z_g (z32 r1.1) (if r1.1 = 0 then
    z_b (J_X12_laysArcs r1.2) fun r3 =>
    z_g (z32 r3.1) (if r3.1 < 0 then
      J_X12_arcs_34 v1 0 0 r3.2
    else
      J_X12_arcs_34 v1 0 1 r3.2)
  else
    some ((-1), r1.2))
def J_X12_arcs (x1 : Int) (st : z_St) : Option (Int × z_St) :=
  z_g (z64 x1 ∧ z64 0) (if x1 < 0 then
    J_X12_arcs_12 x1 1 st
  else
    J_X12_arcs_12 x1 0 st)
def J_X12_arc_152 (v1 v4 v6 v7 s0 s1 : Int) (st : z_St) : Option ((Int × Int × Int) ⊕ Int) :=
  some (.inl (s1 - s0, v6, v7 + 1))
def J_X12_arc_138 (v1 v4 v5 v7 v11 s0 : Int) (st : z_St) : Option ((Int × Int × Int) ⊕ Int) :=
  z_g (z32 v11) (if v11 = 0 then
    J_X12_arc_152 v1 v4 s0 v7 0 v5 st
  else
    J_X12_arc_152 v1 v4 s0 v7 1 v5 st)
def J_X12_arc_136 (v1 v4 v5 v6 v7 v11 : Int) (st : z_St) : Option ((Int × Int × Int) ⊕ Int) :=
  J_X12_arc_138 v1 v4 v5 v7 v11 v6 st
def J_X12_arc_119 (v1 v4 v5 v6 v7 s0 : Int) (st : z_St) : Option ((Int × Int × Int) ⊕ Int) :=
  z_g (z32 s0) (if s0 = 0 then
    J_X12_arc_136 v1 v4 v5 v6 v7 s0 st
  else
    z_g (z32 v5) (if v5 = 0 then
      J_X12_arc_138 v1 v4 v5 v7 s0 v7 st
    else
      J_X12_arc_136 v1 v4 v5 v6 v7 s0 st))
def J_X12_arc_118 (v1 v4 v5 v6 v7 : Int) (st : z_St) : Option ((Int × Int × Int) ⊕ Int) :=
  J_X12_arc_119 v1 v4 v5 v6 v7 0 st
def J_X12_arc_b40 (v1 v4 v5 v6 v7 : Int) (st : z_St) : Option ((Int × Int × Int) ⊕ Int) :=
  z_g (z32 v7 ∧ z32 1445) (if v7 < 1445 then
    z_g (z32 v5) (if v5 < 0 then
      some (.inr v6)
    else
      z_g (z32 v7 ∧ z32 5 ∧ (5 : Int) ≠ 0) <|
      z_g (z32 v7 ∧ z32 5 ∧ (5 : Int) ≠ 0) <|
      z_g (z32 (v7.tdiv 5) ∧ z32 17 ∧ (17 : Int) ≠ 0) <|
      z_g (z32 v7 ∧ z32 85 ∧ (85 : Int) ≠ 0) <|
      z_g (z32 (v7.tmod 5) ∧ z32 (st 168 18)) (if v7.tmod 5 < st 168 18 then
        z_g (z32 ((v7.tdiv 5).tmod 17) ∧ z32 (st 168 2)) (if st 168 2 < (v7.tdiv 5).tmod 17 then
          J_X12_arc_118 v1 v4 v5 v6 v7 st
        else
          z_g (z32 (v7.tdiv 85) ∧ z32 ((v7.tdiv 5).tmod 17)) (if v7.tdiv 85 < (v7.tdiv 5).tmod 17 then
            z_b (J_X12_isArc (v7.tmod 5) (v7.tdiv 85) ((v7.tdiv 5).tmod 17) v1 st) fun r5 =>
            z_g (z32 r5) (if r5 = 0 then
              J_X12_arc_118 v1 v4 v5 v6 v7 st
            else
              J_X12_arc_119 v1 v4 v5 v6 v7 1 st)
          else
            J_X12_arc_118 v1 v4 v5 v6 v7 st))
      else
        J_X12_arc_118 v1 v4 v5 v6 v7 st))
  else
    some (.inr v6))
def J_X12_arc_270 (s0 : Int) (st : z_St) : Option (Int × z_St) :=
  some (s0, st)
def J_X12_arc_190 (v4 v6 s0 : Int) (st : z_St) : Option (Int × z_St) :=
  z_b (J_X12_holds s0 st) fun r8 =>
  z_g (z32 r8.1) (if r8.1 = 0 then
    z_g (z32 v4) (if v4 = 0 then
      z_g (z32 v6 ∧ z32 5 ∧ (5 : Int) ≠ 0) <|
      z_g (z32 (v6.tmod 5)) <|
      J_X12_arc_270 (v6.tmod 5) r8.2
    else
      z_g (z32 v4 ∧ z32 1) (if v4 = 1 then
        z_g (z32 v6 ∧ z32 85 ∧ (85 : Int) ≠ 0) <|
        z_g (z32 (v6.tdiv 85)) <|
        J_X12_arc_270 (v6.tdiv 85) r8.2
      else
        z_g (z32 v4 ∧ z32 2) (if v4 = 2 then
          z_g (z32 v6 ∧ z32 5 ∧ (5 : Int) ≠ 0) <|
          z_g (z32 (v6.tdiv 5) ∧ z32 17 ∧ (17 : Int) ≠ 0) <|
          z_g (z32 ((v6.tdiv 5).tmod 17)) <|
          J_X12_arc_270 ((v6.tdiv 5).tmod 17) r8.2
        else
          z_g (z32 v6 ∧ z32 5 ∧ (5 : Int) ≠ 0) <|
          z_g (z32 v6 ∧ z32 85 ∧ (85 : Int) ≠ 0) <|
          z_g (z32 v6 ∧ z32 5 ∧ (5 : Int) ≠ 0) <|
          z_g (z32 (v6.tdiv 5) ∧ z32 17 ∧ (17 : Int) ≠ 0) <|
          z_b (J_X12_span (v6.tmod 5) (v6.tdiv 85) ((v6.tdiv 5).tmod 17) r8.2) fun r10 =>
          z_g (0 ≤ r10 ∧ r10 < 1445) <|
          J_X12_arc_270 (r8.2 197 r10) r8.2)))
  else
    some ((-1), r8.2))
def J_X12_arc_32 (v1 v4 s0 : Int) (st : z_St) : Option (Int × z_St) :=
  z_b (z_iter z_F (fun q9 : (Int × Int × Int) => J_X12_arc_b40 v1 v4 q9.1 q9.2.1 q9.2.2 st) (s0, (-1), 0)) fun lx7 =>
    z_g (z32 lx7) (if lx7 < 0 then
      J_X12_arc_190 v4 lx7 1 st
    else
      z_g (z32 v4) <|
      z_b (J_X12_in v4 0 3 st) fun r13 =>
      z_g (z32 r13) (if r13 = 0 then
        J_X12_arc_190 v4 lx7 2 st
      else
        J_X12_arc_190 v4 lx7 0 st))
def J_X12_arc_31 (v1 v4 : Int) (st : z_St) : Option (Int × z_St) :=
  J_X12_arc_32 v1 v4 (-1) st
def J_X12_arc (x1 x3 x4 : Int) (st : z_St) : Option (Int × z_St) :=
  z_g (z64 x1 ∧ z64 0) (if x1 < 0 then
    z_b (J_X12_holds 2 st) fun r1 =>
    some ((-1), r1.2)
  else
    z_b (J_X12_laysArcs st) fun r3 =>
    z_g (z32 r3.1) (if r3.1 < 0 then
      J_X12_arc_31 x1 x4 r3.2
    else
      z_g (z32 x3) (if x3 < 0 then
        J_X12_arc_31 x1 x4 r3.2
      else
        J_X12_arc_32 x1 x4 x3 r3.2)))
def J_X12_keyword_b65 (v1 v4 v5 v2 v6 : Int) (st : z_St) : Option ((Int × Int) ⊕ Int) :=
  z_g (z32 v6 ∧ z32 (st 168 2)) (if st 168 2 < v6 then
    some (.inr v2)
  else
    z_b (J_X12_span v1 v5 v6 st) fun r7 =>
    z_g (0 ≤ r7 ∧ r7 < 1445) <|
    z_b (J_X12_least v2 (st 197 r7) st) fun r10 =>
    some (.inl (r10, v6 + 1)))
def J_X12_keyword_b45 (v1 v4 v2 v5 : Int) (st : z_St) : Option ((Int × Int) ⊕ Int) :=
  z_g (z32 v5 ∧ z32 (st 168 2)) (if v5 < st 168 2 then
    z_g (z32 v4) (if v4 = 0 then
      some (.inr v2)
    else
      z_b (z_iter z_F (fun q9 : (Int × Int) => J_X12_keyword_b65 v1 v4 v5 q9.1 q9.2 st) (v2, v5 + 1)) fun lx12 =>
        some (.inl (lx12, v5 + 1)))
  else
    some (.inr v2))
def J_X12_keyword_40 (v1 v2 s0 : Int) (st : z_St) : Option (Int × z_St) :=
  z_b (z_iter z_F (fun q9 : (Int × Int) => J_X12_keyword_b45 v1 s0 q9.1 q9.2 st) (v2, 0)) fun lx13 =>
    z_b (J_X12_told lx13 st) fun r14 =>
    some (r14, st)
def J_X12_keyword_14 (v1 s0 : Int) (st : z_St) : Option (Int × z_St) :=
  z_b (J_X12_holds s0 st) fun r3 =>
  z_g (z32 r3.1) (if r3.1 = 0 then
    z_b (J_X12_laysArcs r3.2) fun r5 =>
    z_g (z32 r5.1) (if r5.1 < 0 then
      J_X12_keyword_40 v1 1000000000000000000 0 r5.2
    else
      J_X12_keyword_40 v1 1000000000000000000 1 r5.2)
  else
    some ((-1), r3.2))
def J_X12_keyword (x1 : Int) (st : z_St) : Option (Int × z_St) :=
  z_b (J_X12_isWord x1 st) fun r1 =>
  z_g (z32 r1) (if r1 = 0 then
    J_X12_keyword_14 x1 1 st
  else
    J_X12_keyword_14 x1 0 st)
def J_X12_bitsOf_b6 (v2 v3 v4 : Int) (st : z_St) : Option ((Int × Int) ⊕ (Int × Int)) :=
  z_g (z32 v2) <|
  z_g (z64 v4 ∧ z64 v2) (if v4 < v2 then
    some (.inl (v3 + 1, v4 * 2))
  else
    some (.inr (v3, v4)))
def J_X12_bitsOf_92 (v3 s0 s1 : Int) (st : z_St) : Option (Int) :=
  z_g (z32 v3) <|
  some ((((127 - v3) * 8388608) + (s1 + s0)) - 8388608)
def J_X12_bitsOf_87 (v3 s0 : Int) (st : z_St) : Option (Int) :=
  J_X12_bitsOf_92 v3 1 s0 st
def J_X12_bitsOf_91 (v3 s0 : Int) (st : z_St) : Option (Int) :=
  J_X12_bitsOf_92 v3 0 s0 st
def J_X12_bitsOf (x1 x2 : Int) (st : z_St) : Option (Int) :=
  z_g (z32 x1) <|
  z_b (z_iter z_F (fun q9 : (Int × Int) => J_X12_bitsOf_b6 x2 q9.1 q9.2 st) (0, x1)) fun lx1 =>
    z_g (z32 x2) <|
    z_g (z64 (lx1.2 * 8388608) ∧ z64 x2 ∧ (x2 : Int) ≠ 0) <|
    z_g (z32 x2) <|
    z_g (z64 (lx1.2 * 8388608) ∧ z64 x2 ∧ (x2 : Int) ≠ 0) <|
    z_g (z32 x2) <|
    z_g (z64 (2 * ((lx1.2 * 8388608).tmod x2)) ∧ z64 x2) (if x2 < 2 * ((lx1.2 * 8388608).tmod x2) then
      J_X12_bitsOf_87 lx1.1 ((lx1.2 * 8388608).tdiv x2) st
    else
      z_g (z32 x2) <|
      z_g (z64 (2 * ((lx1.2 * 8388608).tmod x2)) ∧ z64 x2) (if 2 * ((lx1.2 * 8388608).tmod x2) = x2 then
        z_g (z64 ((lx1.2 * 8388608).tdiv x2) ∧ z64 2 ∧ (2 : Int) ≠ 0) <|
        z_g (z64 (((lx1.2 * 8388608).tdiv x2).tmod 2) ∧ z64 1) (if ((lx1.2 * 8388608).tdiv x2).tmod 2 = 1 then
          J_X12_bitsOf_87 lx1.1 ((lx1.2 * 8388608).tdiv x2) st
        else
          J_X12_bitsOf_91 lx1.1 ((lx1.2 * 8388608).tdiv x2) st)
      else
        J_X12_bitsOf_91 lx1.1 ((lx1.2 * 8388608).tdiv x2) st))
def J_X12_sure_38 (s0 : Int) (st : z_St) : Option (Int × z_St) :=
  z_b (J_X12_holds s0 st) fun r3 =>
  some ((-1), r3.2)
def J_X12_sure_27 (v4 : Int) (st : z_St) : Option (Int × z_St) :=
  z_g (z32 v4) (if v4 = 0 then
    J_X12_sure_38 1 st
  else
    J_X12_sure_38 2 st)
def J_X12_sure_167 (v1 v3 v6 v7 v8 v9 s0 s1 : Int) (st : z_St) : Option ((Int × Int × Int) ⊕ (Int × Int)) :=
  some (.inl (s1 + s0, v6, v9 + 1))
def J_X12_sure_166 (v1 v3 v6 v7 v8 v9 s0 : Int) (st : z_St) : Option ((Int × Int × Int) ⊕ (Int × Int)) :=
  J_X12_sure_167 v1 v3 v6 v7 v8 v9 0 s0 st
def J_X12_sure_136 (v1 v3 v5 v7 v8 v9 v10 s0 s1 : Int) (st : z_St) : Option ((Int × Int × Int) ⊕ (Int × Int)) :=
  z_g (z32 v10) (if v10 = 0 then
    J_X12_sure_166 v1 v3 (s1 + s0) v7 v8 v9 v5 st
  else
    z_g (0 ≤ (6 * v3) + 1 ∧ (6 * v3) + 1 < 96) <|
    z_g (z32 v7 ∧ z32 (st 191 ((6 * v3) + 1))) (if v7 = st 191 ((6 * v3) + 1) then
      J_X12_sure_167 v1 v3 (s1 + s0) v7 v8 v9 1 v5 st
    else
      J_X12_sure_166 v1 v3 (s1 + s0) v7 v8 v9 v5 st))
def J_X12_sure_b102 (v1 v3 v7 v8 v5 v6 v9 : Int) (st : z_St) : Option ((Int × Int × Int) ⊕ (Int × Int)) :=
  z_g (z32 v9 ∧ z32 (st 168 2)) (if st 168 2 < v9 then
    some (.inr (v5, v6))
  else
    z_b (J_X12_isArc v7 v8 v9 v1 st) fun r11 =>
    z_g (z32 r11) (if r11 = 0 then
      J_X12_sure_136 v1 v3 v5 v7 v8 v9 r11 0 v6 st
    else
      J_X12_sure_136 v1 v3 v5 v7 v8 v9 r11 1 v6 st))
def J_X12_sure_b91 (v1 v3 v7 v5 v6 v8 : Int) (st : z_St) : Option ((Int × Int × Int) ⊕ (Int × Int)) :=
  z_g (z32 v8 ∧ z32 v3) (if v3 < v8 then
    some (.inr (v5, v6))
  else
    z_b (z_iter z_F (fun q9 : (Int × Int × Int) => J_X12_sure_b102 v1 v3 v7 v8 q9.1 q9.2.1 q9.2.2 st) (v5, v6, v3 + 1)) fun lx14 =>
      some (.inl (lx14.1, lx14.2, v8 + 1)))
def J_X12_sure_b79 (v1 v3 v5 v6 v7 : Int) (st : z_St) : Option ((Int × Int × Int) ⊕ (Int × Int)) :=
  z_g (z32 v7 ∧ z32 (st 168 18)) (if v7 < st 168 18 then
    z_b (z_iter z_F (fun q9 : (Int × Int × Int) => J_X12_sure_b91 v1 v3 v7 q9.1 q9.2.1 q9.2.2 st) (v5, v6, 0)) fun lx15 =>
      some (.inl (lx15.1, lx15.2, v7 + 1))
  else
    some (.inr (v5, v6)))
def J_X12_sure_57 (v1 v3 s0 : Int) (st : z_St) : Option (Int × z_St) :=
  z_b (J_X12_holds s0 st) fun r7 =>
  z_g (z32 r7.1) (if r7.1 = 0 then
    z_b (J_X12_laysArcs r7.2) fun r9 =>
    z_b (z_iter z_F (fun q9 : (Int × Int × Int) => J_X12_sure_b79 v1 v3 q9.1 q9.2.1 q9.2.2 r9.2) (0, 0, 0)) fun lx16 =>
      z_b (J_X12_bitsOf lx16.1 lx16.2 r9.2) fun r17 =>
      some (r17, r9.2)
  else
    some ((-1), r7.2))
def J_X12_sure (x1 x3 : Int) (st : z_St) : Option (Int × z_St) :=
  z_g (z32 x3) <|
  z_g (z32 ((st 168 2) - 1)) <|
  z_b (J_X12_in x3 0 ((st 168 2) - 1) st) fun r1 =>
  z_g (z32 r1) (if r1 = 0 then
    J_X12_sure_27 r1 st
  else
    z_g (z64 x1 ∧ z64 0) (if x1 < 0 then
      J_X12_sure_27 r1 st
    else
      z_b (J_X12_laysPath st) fun r5 =>
      z_g (z32 r5.1) (if r5.1 < 0 then
        J_X12_sure_57 x1 x3 3 r5.2
      else
        J_X12_sure_57 x1 x3 0 r5.2)))
def J_X12_path_42 (s0 : Int) (st : z_St) : Option (Int × z_St) :=
  z_b (J_X12_holds s0 st) fun r3 =>
  some ((-1), r3.2)
def J_X12_path_32 (v3 : Int) (st : z_St) : Option (Int × z_St) :=
  z_g (z32 v3) (if v3 = 0 then
    J_X12_path_42 1 st
  else
    J_X12_path_42 2 st)
def J_X12_path_61 (v1 v2 s0 : Int) (st : z_St) : Option (Int × z_St) :=
  z_b (J_X12_holds s0 st) fun r9 =>
  z_g (z32 r9.1) (if r9.1 = 0 then
    z_g (0 ≤ (6 * v1) + v2 ∧ (6 * v1) + v2 < 96) <|
    some (r9.2 191 ((6 * v1) + v2), r9.2)
  else
    some ((-1), r9.2))
def J_X12_path (x1 x2 : Int) (st : z_St) : Option (Int × z_St) :=
  z_g (z32 x1) <|
  z_g (z32 ((st 168 2) - 1)) <|
  z_b (J_X12_in x1 0 ((st 168 2) - 1) st) fun r1 =>
  z_g (z32 r1) (if r1 = 0 then
    J_X12_path_32 r1 st
  else
    z_g (z32 x2) <|
    z_b (J_X12_in x2 0 5 st) fun r5 =>
    z_g (z32 r5) (if r5 = 0 then
      J_X12_path_32 r1 st
    else
      z_b (J_X12_laysPath st) fun r7 =>
      z_g (z32 r7.1) (if r7.1 < 0 then
        J_X12_path_61 x1 x2 3 r7.2
      else
        J_X12_path_61 x1 x2 0 r7.2)))
def J_X12_errors_237 (v2 v4 v5 v6 v7 : Int) (st : z_St) : Option ((Int × z_St) ⊕ z_St) :=
  z_g (0 ≤ (5 * v5) + v6 ∧ (5 * v5) + v6 < 25) <|
  z_let (z_up st 198 ((5 * v5) + v6) v7) fun st19 =>
  some (.inl (v6 + 1, st19))
def J_X12_errors_235 (v2 v4 v5 v6 s0 : Int) (st : z_St) : Option ((Int × z_St) ⊕ z_St) :=
  J_X12_errors_237 v2 v4 v5 v6 s0 st
def J_X12_errors_191 (v2 v4 v5 v6 s0 : Int) (st : z_St) : Option ((Int × z_St) ⊕ z_St) :=
  z_g (0 ≤ ((5 * v5) + v6) - 1 ∧ ((5 * v5) + v6) - 1 < 25) <|
  z_g (z32 ((st 198 (((5 * v5) + v6) - 1)) + 1) ∧ z32 s0) (if (st 198 (((5 * v5) + v6) - 1)) + 1 < s0 then
    z_g (0 ≤ ((5 * v5) + v6) - 1 ∧ ((5 * v5) + v6) - 1 < 25) <|
    J_X12_errors_235 v2 v4 v5 v6 ((st 198 (((5 * v5) + v6) - 1)) + 1) st
  else
    J_X12_errors_235 v2 v4 v5 v6 s0 st)
def J_X12_errors_146 (v2 v4 v5 v6 s0 s1 : Int) (st : z_St) : Option ((Int × z_St) ⊕ z_St) :=
  z_g (0 ≤ (5 * (v5 - 1)) + v6 ∧ (5 * (v5 - 1)) + v6 < 25) <|
  z_g (z32 ((st 198 ((5 * (v5 - 1)) + v6)) + 1) ∧ z32 (s1 + s0)) (if (st 198 ((5 * (v5 - 1)) + v6)) + 1 < s1 + s0 then
    z_g (0 ≤ (5 * (v5 - 1)) + v6 ∧ (5 * (v5 - 1)) + v6 < 25) <|
    J_X12_errors_191 v2 v4 v5 v6 ((st 198 ((5 * (v5 - 1)) + v6)) + 1) st
  else
    J_X12_errors_191 v2 v4 v5 v6 (s1 + s0) st)
def J_X12_errors_92 (v2 v4 v5 v6 s0 : Int) (st : z_St) : Option ((Int × z_St) ⊕ z_St) :=
  z_g (z32 v5) (if 0 < v5 then
    z_g (z32 v6) (if 0 < v6 then
      z_g (0 ≤ ((5 * (v5 - 1)) + v6) - 1 ∧ ((5 * (v5 - 1)) + v6) - 1 < 25) <|
      z_g (0 ≤ v5 - 1 ∧ v5 - 1 < 4) <|
      z_g (0 ≤ v6 - 1 ∧ v6 - 1 < 4) <|
      z_g (z32 (st 186 (v5 - 1)) ∧ z32 (st 187 (v6 - 1))) (if st 186 (v5 - 1) = st 187 (v6 - 1) then
        J_X12_errors_146 v2 v4 v5 v6 0 (st 198 (((5 * (v5 - 1)) + v6) - 1)) st
      else
        J_X12_errors_146 v2 v4 v5 v6 1 (st 198 (((5 * (v5 - 1)) + v6) - 1)) st)
    else
      J_X12_errors_237 v2 v4 v5 v6 s0 st)
  else
    J_X12_errors_237 v2 v4 v5 v6 s0 st)
def J_X12_errors_b74 (v2 v4 v5 v6 : Int) (st : z_St) : Option ((Int × z_St) ⊕ z_St) :=
  z_g (z32 v6 ∧ z32 v2) (if v2 < v6 then
    some (.inr st)
  else
    z_g (z32 v5) (if v5 = 0 then
      J_X12_errors_92 v2 v4 v5 v6 v6 st
    else
      J_X12_errors_92 v2 v4 v5 v6 v5 st))
def J_X12_errors_b64 (v2 v4 v5 : Int) (st : z_St) : Option ((Int × z_St) ⊕ z_St) :=
  z_g (z32 v5 ∧ z32 v4) (if v4 < v5 then
    some (.inr st)
  else
    z_b (z_iter z_F (fun q9 : (Int × z_St) => J_X12_errors_b74 v2 v4 v5 q9.1 q9.2) (0, st)) fun lx20 =>
      some (.inl (v5 + 1, lx20)))
def J_X12_errors_37 (v2 v3 s0 : Int) (st : z_St) : Option (Int × z_St) :=
  z_b (J_X12_holds s0 st) fun r7 =>
  z_g (z32 r7.1) (if r7.1 = 0 then
    z_g (0 ≤ v3 ∧ v3 < 780) <|
    z_b (J_X12_apart (r7.2 190 v3) 186 r7.2) fun r10 =>
    z_b (z_iter z_F (fun q9 : (Int × z_St) => J_X12_errors_b64 v2 r10.1 q9.1 q9.2) (0, r10.2)) fun lx21 =>
      z_g (0 ≤ (5 * r10.1) + v2 ∧ (5 * r10.1) + v2 < 25) <|
      some (lx21 198 ((5 * r10.1) + v2), lx21)
  else
    some ((-1), r7.2))
def J_X12_errors (x1 : Int) (st : z_St) : Option (Int × z_St) :=
  z_b (J_X12_apart x1 187 st) fun r1 =>
  z_g (z32 r1.1) (if r1.1 = 0 then
    z_b (J_X12_holds 1 r1.2) fun r3 =>
    some ((-1), r3.2)
  else
    z_b (J_X12_laysRows r1.2) fun r5 =>
    z_g (z32 r5.1) (if r5.1 < 0 then
      J_X12_errors_37 r1.1 r5.1 2 r5.2
    else
      J_X12_errors_37 r1.1 r5.1 0 r5.2))
def J_X12_sum_69 (v3 s0 s1 : Int) (st : z_St) : Option ((Int × Int) ⊕ Int) :=
  some (.inl (s1 + s0, v3 + 1))
def J_X12_sum_b42 (v2 v3 : Int) (st : z_St) : Option ((Int × Int) ⊕ Int) :=
  z_g (z32 v3 ∧ z32 (st 168 31)) (if v3 < st 168 31 then
    z_g (0 ≤ v3 ∧ v3 < 780) <|
    z_g (z64 (st 189 v3) ∧ z64 1000000000000000000) (if st 189 v3 < 1000000000000000000 then
      J_X12_sum_69 v3 1 v2 st
    else
      J_X12_sum_69 v3 0 v2 st)
  else
    some (.inr v2))
def J_X12_sum_167 (s0 : Int) (st : z_St) : Option (Int × z_St) :=
  some (s0, st)
def J_X12_sum_19 (v1 s0 : Int) (st : z_St) : Option (Int × z_St) :=
  z_b (J_X12_holds s0 st) fun r3 =>
  z_g (z32 r3.1) (if r3.1 = 0 then
    z_g (z32 v1 ∧ z32 8) (if v1 = 8 then
      z_b (J_X12_laysRows r3.2) fun r5 =>
      z_b (z_iter z_F (fun q9 : (Int × Int) => J_X12_sum_b42 q9.1 q9.2 r5.2) (0, 0)) fun lx8 =>
        some (lx8, r5.2)
    else
      z_g (z32 v1) (if v1 = 0 then
        J_X12_sum_167 (r3.2 168 2) r3.2
      else
        z_g (z32 v1 ∧ z32 1) (if v1 = 1 then
          J_X12_sum_167 (r3.2 168 11) r3.2
        else
          z_g (z32 v1 ∧ z32 2) (if v1 = 2 then
            J_X12_sum_167 (r3.2 168 18) r3.2
          else
            z_g (z32 v1 ∧ z32 3) (if v1 = 3 then
              J_X12_sum_167 (r3.2 168 20) r3.2
            else
              z_g (z32 v1 ∧ z32 4) (if v1 = 4 then
                J_X12_sum_167 (r3.2 168 13) r3.2
              else
                z_g (z32 v1 ∧ z32 5) (if v1 = 5 then
                  J_X12_sum_167 (r3.2 168 4) r3.2
                else
                  z_g (z32 v1 ∧ z32 6) (if v1 = 6 then
                    J_X12_sum_167 (r3.2 168 21) r3.2
                  else
                    J_X12_sum_167 (r3.2 168 22) r3.2))))))))
  else
    some ((-1), r3.2))
def J_X12_sum (x1 : Int) (st : z_St) : Option (Int × z_St) :=
  z_g (z32 x1) <|
  z_b (J_X12_in x1 0 8 st) fun r1 =>
  z_g (z32 r1) (if r1 = 0 then
    J_X12_sum_19 x1 1 st
  else
    J_X12_sum_19 x1 0 st)
def J_L_frame (x1 x2 x3 : Int) (st : z_St) : Option (Int × z_St) := match J_X11_frame x1 x2 x3 st with
  | none => none
  | some (.inl q) => z_g (z32 q.1) <| some (0, z_up q.2 199 0 q.1)
  | some (.inr q) => if q.1 = 1 then some (1, q.2) else if q.1 = 2 then some (2, q.2) else none
def J_L_speak (x1 : Int) (st : z_St) : Option (Int × z_St) := match J_X11_speak x1 st with
  | none => none
  | some (.inl q) => z_g (z32 q.1) <| some (0, z_up q.2 199 0 q.1)
  | some (.inr q) => if q.1 = 3 then some (1, q.2) else none
def J_L_shift (x1 x2 x3 : Int) (st : z_St) : Option (Int × z_St) := match J_X11_shift x1 x2 x3 st with
  | none => none
  | some (.inl q) => z_g (z32 q.1) <| some (0, z_up q.2 199 0 q.1)
  | some (.inr q) => if q.1 = 3 then some (1, q.2) else if q.1 = 1 then some (2, q.2) else none
def J_L_shiftOf (x1 x2 : Int) (st : z_St) : Option (Int × z_St) := match J_X11_shiftOf x1 x2 st with
  | none => none
  | some (.inl q) => z_g (z32 q) <| some (0, z_up st 199 0 q)
  | some (.inr q) => if q.1 = 3 then some (1, q.2) else if q.1 = 1 then some (2, q.2) else none
def J_L_fit (st : z_St) : Option (Int × z_St) := match J_X11_fit st with
  | none => none
  | some (.inl q) => some (0, z_up q.2 199 0 q.1)
  | some (.inr q) => if q.1 = 2 then some (1, q.2) else none
def J_L_sound (x1 x2 x3 x4 : Int) (st : z_St) : Option (Int × z_St) := match J_X11_sound x1 x2 x3 x4 st with
  | none => none
  | some (.inl q) => z_g (z32 q.1) <| some (0, z_up q.2 199 0 q.1)
  | some (.inr q) => if q.1 = 1 then some (1, q.2) else if q.1 = 2 then some (2, q.2) else none
def J_L_question (x1 x2 x3 x4 : Int) (st : z_St) : Option (Int × z_St) := match J_X11_question x1 x2 x3 x4 st with
  | none => none
  | some (.inl q) => z_g (z32 q.1) <| some (0, z_up q.2 199 0 q.1)
  | some (.inr q) => if q.1 = 3 then some (1, q.2) else if q.1 = 1 then some (2, q.2) else if q.1 = 2 then some (3, q.2) else none
def J_L_type (x1 : Int) (st : z_St) : Option (Int × z_St) := match J_X11_type x1 st with
  | none => none
  | some (.inl q) => z_g (z32 q.1) <| some (0, z_up q.2 199 0 q.1)
  | some (.inr q) => if q.1 = 1 then some (1, q.2) else if q.1 = 2 then some (2, q.2) else none
def J_L_word (x1 : Int) (st : z_St) : Option (Int × z_St) := match J_X11_word x1 st with
  | none => none
  | some (.inl q) => z_g (z32 q.1) <| some (0, z_up q.2 199 0 q.1)
  | some (.inr q) => if q.1 = 1 then some (1, q.2) else if q.1 = 2 then some (2, q.2) else none
def J_L_saying (x1 x2 : Int) (st : z_St) : Option (Int × z_St) := match J_X11_saying x1 x2 st with
  | none => none
  | some (.inl q) => z_g (z32 q.1) <| some (0, z_up q.2 199 0 q.1)
  | some (.inr q) => if q.1 = 3 then some (1, q.2) else if q.1 = 1 then some (2, q.2) else if q.1 = 2 then some (3, q.2) else none
def J_L_form (x1 x2 x3 : Int) (st : z_St) : Option (Int × z_St) := match J_X11_form x1 x2 x3 st with
  | none => none
  | some (.inl q) => z_g (z32 q) <| some (0, z_up st 199 0 q)
  | some (.inr q) => if q.1 = 3 then some (1, q.2) else none
def J_L_cost (x1 x2 x3 : Int) (st : z_St) : Option (Int × z_St) := match J_X11_cost x1 x2 x3 st with
  | none => none
  | some (.inl q) => some (0, z_up st 199 0 q)
  | some (.inr q) => if q.1 = 3 then some (1, q.2) else if q.1 = 1 then some (2, q.2) else none
def J_L_over (x1 x2 x3 : Int) (st : z_St) : Option (Int × z_St) := match J_X11_over x1 x2 x3 st with
  | none => none
  | some (.inl q) => some (0, z_up q.2 199 0 q.1)
  | some (.inr q) => if q.1 = 3 then some (1, q.2) else if q.1 = 1 then some (2, q.2) else none
def J_L_learn (x1 : Int) (st : z_St) : Option (Int × z_St) := match J_X11_learn x1 st with
  | none => none
  | some (.inl q) => z_g (z32 q.1) <| some (0, z_up q.2 199 0 q.1)
  | some (.inr q) => if q.1 = 1 then some (1, q.2) else none
def J_L_back (x1 : Int) (st : z_St) : Option (Int × z_St) := match J_X11_back x1 st with
  | none => none
  | some (.inl q) => z_g (z32 q.1) <| some (0, z_up q.2 199 0 q.1)
  | some (.inr q) => if q.1 = 1 then some (1, q.2) else none
def J_L_factor (x1 : Int) (st : z_St) : Option (Int × z_St) := match J_X11_factor x1 st with
  | none => none
  | some (.inl q) => z_g (z32 q.1) <| some (0, z_up q.2 199 0 q.1)
  | some (.inr q) => if q.1 = 1 then some (1, q.2) else none
def J_L_price (x1 x2 : Int) (st : z_St) : Option (Int × z_St) := match J_X11_price x1 x2 st with
  | none => none
  | some (.inl q) => some (0, z_up st 199 0 q)
  | some (.inr q) => if q.1 = 3 then some (1, q.2) else none
def J_L_weight (x1 : Int) (st : z_St) : Option (Int × z_St) := match J_X11_weight x1 st with
  | none => none
  | some (.inl q) => some (0, z_up q.2 199 0 q.1)
  | some (.inr q) => if q.1 = 1 then some (1, q.2) else none
def J_L_weightAnew (x1 : Int) (st : z_St) : Option (Int × z_St) := match J_X11_weightAnew x1 st with
  | none => none
  | some (.inl q) => some (0, z_up q.2 199 0 q.1)
  | some (.inr q) => if q.1 = 1 then some (1, q.2) else none
def J_L_best (x1 : Int) (st : z_St) : Option (Int × z_St) := match J_X11_best x1 st with
  | none => none
  | some (.inl q) => z_g (z32 q.1) <| some (0, z_up q.2 199 0 q.1)
  | some (.inr q) => if q.1 = 1 then some (1, q.2) else none
def J_L_found (x1 x3 x4 : Int) (st : z_St) : Option (Int × z_St) := match J_X11_found x1 x3 x4 st with
  | none => none
  | some (.inl q) => some (0, z_up q.2 199 0 q.1)
  | some (.inr q) => if q.1 = 1 then some (1, q.2) else none
def J_L_arcs (x1 : Int) (st : z_St) : Option (Int × z_St) := match J_X11_arcs x1 st with
  | none => none
  | some (.inl q) => z_g (z32 q.1) <| some (0, z_up q.2 199 0 q.1)
  | some (.inr q) => if q.1 = 1 then some (1, q.2) else none
def J_L_arc (x1 x3 x4 : Int) (st : z_St) : Option (Int × z_St) := match J_X11_arc x1 x3 x4 st with
  | none => none
  | some (.inl q) => some (0, z_up q.2 199 0 q.1)
  | some (.inr q) => if q.1 = 3 then some (1, q.2) else if q.1 = 1 then some (2, q.2) else none
def J_L_keyword (x1 : Int) (st : z_St) : Option (Int × z_St) := match J_X11_keyword x1 st with
  | none => none
  | some (.inl q) => some (0, z_up q.2 199 0 q.1)
  | some (.inr q) => if q.1 = 3 then some (1, q.2) else none
def J_L_sure (x1 x3 : Int) (st : z_St) : Option (Int × z_St) := match J_X11_sure x1 x3 st with
  | none => none
  | some (.inl q) => z_g (z32 q.1) <| some (0, z_up q.2 199 0 q.1)
  | some (.inr q) => if q.1 = 3 then some (1, q.2) else if q.1 = 1 then some (2, q.2) else if q.1 = 2 then some (3, q.2) else none
def J_L_path (x1 x2 : Int) (st : z_St) : Option (Int × z_St) := match J_X11_path x1 x2 st with
  | none => none
  | some (.inl q) => z_g (z32 q.1) <| some (0, z_up q.2 199 0 q.1)
  | some (.inr q) => if q.1 = 3 then some (1, q.2) else if q.1 = 1 then some (2, q.2) else if q.1 = 2 then some (3, q.2) else none
def J_L_errors (x1 : Int) (st : z_St) : Option (Int × z_St) := match J_X11_errors x1 st with
  | none => none
  | some (.inl q) => z_g (z32 q.1) <| some (0, z_up q.2 199 0 q.1)
  | some (.inr q) => if q.1 = 1 then some (1, q.2) else if q.1 = 2 then some (2, q.2) else none
def J_L_sum (x1 : Int) (st : z_St) : Option (Int × z_St) := match J_X11_sum x1 st with
  | none => none
  | some (.inl q) => z_g (z32 q.1) <| some (0, z_up q.2 199 0 q.1)
  | some (.inr q) => if q.1 = 1 then some (1, q.2) else none
def JL_0 (f : Int → Int) (i : Int) (st : z_St) : Option z_St :=
  z_b (J_L_frame (f (i + 1)) (f (i + 2)) (f (i + 3)) st) fun r =>
  z_b (J_X12_frame (f (i + 1)) (f (i + 2)) (f (i + 3)) r.2) fun q =>
  z_b (J_X12_thrown q.2) fun t =>
  z_g ((z32 t ∧ z32 r.1) ∧ t = r.1) <|
  z_g (r.1 = 0 → z32 q.1 ∧ z64 (q.2 199 0) ∧ z64 q.1 ∧ q.2 199 0 = q.1) <|
  some q.2
def JL_1 (_f : Int → Int) (_i : Int) (st : z_St) : Option z_St :=
  z_b (J_X11_silence st) fun r =>
  z_b (J_X12_silence r.2) fun q =>
  z_g ((z32 r.1 ∧ z32 q.1) ∧ r.1 = q.1) <|
  some q.2
def JL_2 (f : Int → Int) (i : Int) (st : z_St) : Option z_St :=
  z_b (J_L_speak (f (i + 1)) st) fun r =>
  z_b (J_X12_speak (f (i + 1)) r.2) fun q =>
  z_b (J_X12_thrown q.2) fun t =>
  z_g ((z32 t ∧ z32 r.1) ∧ t = r.1) <|
  z_g (r.1 = 0 → z32 q.1 ∧ z64 (q.2 199 0) ∧ z64 q.1 ∧ q.2 199 0 = q.1) <|
  some q.2
def JL_3 (f : Int → Int) (i : Int) (st : z_St) : Option z_St :=
  z_b (J_L_shift (f (i + 1)) (f (i + 2)) (f (i + 3)) st) fun r =>
  z_b (J_X12_shift (f (i + 1)) (f (i + 2)) (f (i + 3)) r.2) fun q =>
  z_b (J_X12_thrown q.2) fun t =>
  z_g ((z32 t ∧ z32 r.1) ∧ t = r.1) <|
  z_g (r.1 = 0 → z32 q.1 ∧ z64 (q.2 199 0) ∧ z64 q.1 ∧ q.2 199 0 = q.1) <|
  some q.2
def JL_4 (f : Int → Int) (i : Int) (st : z_St) : Option z_St :=
  z_b (J_L_shiftOf (f (i + 1)) (f (i + 2)) st) fun r =>
  z_b (J_X12_shiftOf (f (i + 1)) (f (i + 2)) r.2) fun q =>
  z_b (J_X12_thrown q.2) fun t =>
  z_g ((z32 t ∧ z32 r.1) ∧ t = r.1) <|
  z_g (r.1 = 0 → z32 q.1 ∧ z64 (q.2 199 0) ∧ z64 q.1 ∧ q.2 199 0 = q.1) <|
  some q.2
def JL_5 (_f : Int → Int) (_i : Int) (st : z_St) : Option z_St :=
  z_b (J_L_fit st) fun r =>
  z_b (J_X12_fit r.2) fun q =>
  z_b (J_X12_thrown q.2) fun t =>
  z_g ((z32 t ∧ z32 r.1) ∧ t = r.1) <|
  z_g (r.1 = 0 → z64 q.1 ∧ z64 (q.2 199 0) ∧ z64 q.1 ∧ q.2 199 0 = q.1) <|
  some q.2
def JL_6 (f : Int → Int) (i : Int) (st : z_St) : Option z_St :=
  z_b (J_L_sound (f (i + 1)) (f (i + 2)) (f (i + 3)) (f (i + 4)) st) fun r =>
  z_b (J_X12_sound (f (i + 1)) (f (i + 2)) (f (i + 3)) (f (i + 4)) r.2) fun q =>
  z_b (J_X12_thrown q.2) fun t =>
  z_g ((z32 t ∧ z32 r.1) ∧ t = r.1) <|
  z_g (r.1 = 0 → z32 q.1 ∧ z64 (q.2 199 0) ∧ z64 q.1 ∧ q.2 199 0 = q.1) <|
  some q.2
def JL_7 (f : Int → Int) (i : Int) (st : z_St) : Option z_St :=
  z_b (J_L_question (f (i + 1)) (f (i + 2)) (f (i + 3)) (f (i + 4)) st) fun r =>
  z_b (J_X12_question (f (i + 1)) (f (i + 2)) (f (i + 3)) (f (i + 4)) r.2) fun q =>
  z_b (J_X12_thrown q.2) fun t =>
  z_g ((z32 t ∧ z32 r.1) ∧ t = r.1) <|
  z_g (r.1 = 0 → z32 q.1 ∧ z64 (q.2 199 0) ∧ z64 q.1 ∧ q.2 199 0 = q.1) <|
  some q.2
def JL_8 (f : Int → Int) (i : Int) (st : z_St) : Option z_St :=
  z_b (J_L_type (z_i2cv (f (i + 1))) st) fun r =>
  z_b (J_X12_type (z_i2cv (f (i + 1))) r.2) fun q =>
  z_b (J_X12_thrown q.2) fun t =>
  z_g ((z32 t ∧ z32 r.1) ∧ t = r.1) <|
  z_g (r.1 = 0 → z32 q.1 ∧ z64 (q.2 199 0) ∧ z64 q.1 ∧ q.2 199 0 = q.1) <|
  some q.2
def JL_9 (f : Int → Int) (i : Int) (st : z_St) : Option z_St :=
  z_b (J_L_word (f (i + 1)) st) fun r =>
  z_b (J_X12_word (f (i + 1)) r.2) fun q =>
  z_b (J_X12_thrown q.2) fun t =>
  z_g ((z32 t ∧ z32 r.1) ∧ t = r.1) <|
  z_g (r.1 = 0 → z32 q.1 ∧ z64 (q.2 199 0) ∧ z64 q.1 ∧ q.2 199 0 = q.1) <|
  some q.2
def JL_10 (f : Int → Int) (i : Int) (st : z_St) : Option z_St :=
  z_b (J_L_saying (f (i + 1)) (f (i + 2)) st) fun r =>
  z_b (J_X12_saying (f (i + 1)) (f (i + 2)) r.2) fun q =>
  z_b (J_X12_thrown q.2) fun t =>
  z_g ((z32 t ∧ z32 r.1) ∧ t = r.1) <|
  z_g (r.1 = 0 → z32 q.1 ∧ z64 (q.2 199 0) ∧ z64 q.1 ∧ q.2 199 0 = q.1) <|
  some q.2
def JL_11 (f : Int → Int) (i : Int) (st : z_St) : Option z_St :=
  z_b (J_L_form (f (i + 1)) (f (i + 2)) (f (i + 3)) st) fun r =>
  z_b (J_X12_form (f (i + 1)) (f (i + 2)) (f (i + 3)) r.2) fun q =>
  z_b (J_X12_thrown q.2) fun t =>
  z_g ((z32 t ∧ z32 r.1) ∧ t = r.1) <|
  z_g (r.1 = 0 → z32 q.1 ∧ z64 (q.2 199 0) ∧ z64 q.1 ∧ q.2 199 0 = q.1) <|
  some q.2
def JL_12 (f : Int → Int) (i : Int) (st : z_St) : Option z_St :=
  z_b (J_L_cost (f (i + 1)) (f (i + 2)) (f (i + 3)) st) fun r =>
  z_b (J_X12_cost (f (i + 1)) (f (i + 2)) (f (i + 3)) r.2) fun q =>
  z_b (J_X12_thrown q.2) fun t =>
  z_g ((z32 t ∧ z32 r.1) ∧ t = r.1) <|
  z_g (r.1 = 0 → z64 q.1 ∧ z64 (q.2 199 0) ∧ z64 q.1 ∧ q.2 199 0 = q.1) <|
  some q.2
def JL_13 (f : Int → Int) (i : Int) (st : z_St) : Option z_St :=
  z_b (J_L_over (f (i + 1)) (f (i + 2)) (f (i + 3)) st) fun r =>
  z_b (J_X12_over (f (i + 1)) (f (i + 2)) (f (i + 3)) r.2) fun q =>
  z_b (J_X12_thrown q.2) fun t =>
  z_g ((z32 t ∧ z32 r.1) ∧ t = r.1) <|
  z_g (r.1 = 0 → z64 q.1 ∧ z64 (q.2 199 0) ∧ z64 q.1 ∧ q.2 199 0 = q.1) <|
  some q.2
def JL_14 (f : Int → Int) (i : Int) (st : z_St) : Option z_St :=
  z_b (J_L_learn (f (i + 1)) st) fun r =>
  z_b (J_X12_learn (f (i + 1)) r.2) fun q =>
  z_b (J_X12_thrown q.2) fun t =>
  z_g ((z32 t ∧ z32 r.1) ∧ t = r.1) <|
  z_g (r.1 = 0 → z32 q.1 ∧ z64 (q.2 199 0) ∧ z64 q.1 ∧ q.2 199 0 = q.1) <|
  some q.2
def JL_15 (f : Int → Int) (i : Int) (st : z_St) : Option z_St :=
  z_b (J_L_back (f (i + 1)) st) fun r =>
  z_b (J_X12_back (f (i + 1)) r.2) fun q =>
  z_b (J_X12_thrown q.2) fun t =>
  z_g ((z32 t ∧ z32 r.1) ∧ t = r.1) <|
  z_g (r.1 = 0 → z32 q.1 ∧ z64 (q.2 199 0) ∧ z64 q.1 ∧ q.2 199 0 = q.1) <|
  some q.2
def JL_16 (f : Int → Int) (i : Int) (st : z_St) : Option z_St :=
  z_b (J_L_factor (f (i + 1)) st) fun r =>
  z_b (J_X12_factor (f (i + 1)) r.2) fun q =>
  z_b (J_X12_thrown q.2) fun t =>
  z_g ((z32 t ∧ z32 r.1) ∧ t = r.1) <|
  z_g (r.1 = 0 → z32 q.1 ∧ z64 (q.2 199 0) ∧ z64 q.1 ∧ q.2 199 0 = q.1) <|
  some q.2
def JL_17 (f : Int → Int) (i : Int) (st : z_St) : Option z_St :=
  z_b (J_L_price (f (i + 1)) (f (i + 2)) st) fun r =>
  z_b (J_X12_price (f (i + 1)) (f (i + 2)) r.2) fun q =>
  z_b (J_X12_thrown q.2) fun t =>
  z_g ((z32 t ∧ z32 r.1) ∧ t = r.1) <|
  z_g (r.1 = 0 → z64 q.1 ∧ z64 (q.2 199 0) ∧ z64 q.1 ∧ q.2 199 0 = q.1) <|
  some q.2
def JL_18 (f : Int → Int) (i : Int) (st : z_St) : Option z_St :=
  z_b (J_L_weight (f (i + 1)) st) fun r =>
  z_b (J_X12_weight (f (i + 1)) r.2) fun q =>
  z_b (J_X12_thrown q.2) fun t =>
  z_g ((z32 t ∧ z32 r.1) ∧ t = r.1) <|
  z_g (r.1 = 0 → z64 q.1 ∧ z64 (q.2 199 0) ∧ z64 q.1 ∧ q.2 199 0 = q.1) <|
  some q.2
def JL_19 (f : Int → Int) (i : Int) (st : z_St) : Option z_St :=
  z_b (J_L_weightAnew (f (i + 1)) st) fun r =>
  z_b (J_X12_weightAnew (f (i + 1)) r.2) fun q =>
  z_b (J_X12_thrown q.2) fun t =>
  z_g ((z32 t ∧ z32 r.1) ∧ t = r.1) <|
  z_g (r.1 = 0 → z64 q.1 ∧ z64 (q.2 199 0) ∧ z64 q.1 ∧ q.2 199 0 = q.1) <|
  some q.2
def JL_20 (f : Int → Int) (i : Int) (st : z_St) : Option z_St :=
  z_b (J_L_best (f (i + 1)) st) fun r =>
  z_b (J_X12_best (f (i + 1)) r.2) fun q =>
  z_b (J_X12_thrown q.2) fun t =>
  z_g ((z32 t ∧ z32 r.1) ∧ t = r.1) <|
  z_g (r.1 = 0 → z32 q.1 ∧ z64 (q.2 199 0) ∧ z64 q.1 ∧ q.2 199 0 = q.1) <|
  some q.2
def JL_21 (f : Int → Int) (i : Int) (st : z_St) : Option z_St :=
  z_b (J_L_found (z_lor (z_lshl (f (i + 1)) 32) (z_land (f (i + 2)) 4294967295)) (f (i + 3)) (f (i + 4)) st) fun r =>
  z_b (J_X12_found (z_lor (z_lshl (f (i + 1)) 32) (z_land (f (i + 2)) 4294967295)) (f (i + 3)) (f (i + 4)) r.2) fun q =>
  z_b (J_X12_thrown q.2) fun t =>
  z_g ((z32 t ∧ z32 r.1) ∧ t = r.1) <|
  z_g (r.1 = 0 → z64 q.1 ∧ z64 (q.2 199 0) ∧ z64 q.1 ∧ q.2 199 0 = q.1) <|
  some q.2
def JL_22 (f : Int → Int) (i : Int) (st : z_St) : Option z_St :=
  z_b (J_L_arcs (z_lor (z_lshl (f (i + 1)) 32) (z_land (f (i + 2)) 4294967295)) st) fun r =>
  z_b (J_X12_arcs (z_lor (z_lshl (f (i + 1)) 32) (z_land (f (i + 2)) 4294967295)) r.2) fun q =>
  z_b (J_X12_thrown q.2) fun t =>
  z_g ((z32 t ∧ z32 r.1) ∧ t = r.1) <|
  z_g (r.1 = 0 → z32 q.1 ∧ z64 (q.2 199 0) ∧ z64 q.1 ∧ q.2 199 0 = q.1) <|
  some q.2
def JL_23 (f : Int → Int) (i : Int) (st : z_St) : Option z_St :=
  z_b (J_L_arc (z_lor (z_lshl (f (i + 1)) 32) (z_land (f (i + 2)) 4294967295)) (f (i + 3)) (f (i + 4)) st) fun r =>
  z_b (J_X12_arc (z_lor (z_lshl (f (i + 1)) 32) (z_land (f (i + 2)) 4294967295)) (f (i + 3)) (f (i + 4)) r.2) fun q =>
  z_b (J_X12_thrown q.2) fun t =>
  z_g ((z32 t ∧ z32 r.1) ∧ t = r.1) <|
  z_g (r.1 = 0 → z64 q.1 ∧ z64 (q.2 199 0) ∧ z64 q.1 ∧ q.2 199 0 = q.1) <|
  some q.2
def JL_24 (f : Int → Int) (i : Int) (st : z_St) : Option z_St :=
  z_b (J_L_keyword (f (i + 1)) st) fun r =>
  z_b (J_X12_keyword (f (i + 1)) r.2) fun q =>
  z_b (J_X12_thrown q.2) fun t =>
  z_g ((z32 t ∧ z32 r.1) ∧ t = r.1) <|
  z_g (r.1 = 0 → z64 q.1 ∧ z64 (q.2 199 0) ∧ z64 q.1 ∧ q.2 199 0 = q.1) <|
  some q.2
def JL_25 (f : Int → Int) (i : Int) (st : z_St) : Option z_St :=
  z_b (J_L_sure (z_lor (z_lshl (f (i + 1)) 32) (z_land (f (i + 2)) 4294967295)) (f (i + 3)) st) fun r =>
  z_b (J_X12_sure (z_lor (z_lshl (f (i + 1)) 32) (z_land (f (i + 2)) 4294967295)) (f (i + 3)) r.2) fun q =>
  z_b (J_X12_thrown q.2) fun t =>
  z_g ((z32 t ∧ z32 r.1) ∧ t = r.1) <|
  z_g (r.1 = 0 → z32 q.1 ∧ z64 (q.2 199 0) ∧ z64 q.1 ∧ q.2 199 0 = q.1) <|
  some q.2
def JL_26 (f : Int → Int) (i : Int) (st : z_St) : Option z_St :=
  z_b (J_L_path (f (i + 1)) (f (i + 2)) st) fun r =>
  z_b (J_X12_path (f (i + 1)) (f (i + 2)) r.2) fun q =>
  z_b (J_X12_thrown q.2) fun t =>
  z_g ((z32 t ∧ z32 r.1) ∧ t = r.1) <|
  z_g (r.1 = 0 → z32 q.1 ∧ z64 (q.2 199 0) ∧ z64 q.1 ∧ q.2 199 0 = q.1) <|
  some q.2
def JL_27 (f : Int → Int) (i : Int) (st : z_St) : Option z_St :=
  z_b (J_L_errors (f (i + 1)) st) fun r =>
  z_b (J_X12_errors (f (i + 1)) r.2) fun q =>
  z_b (J_X12_thrown q.2) fun t =>
  z_g ((z32 t ∧ z32 r.1) ∧ t = r.1) <|
  z_g (r.1 = 0 → z32 q.1 ∧ z64 (q.2 199 0) ∧ z64 q.1 ∧ q.2 199 0 = q.1) <|
  some q.2
def JL_28 (f : Int → Int) (i : Int) (st : z_St) : Option z_St :=
  z_b (J_L_sum (f (i + 1)) st) fun r =>
  z_b (J_X12_sum (f (i + 1)) r.2) fun q =>
  z_b (J_X12_thrown q.2) fun t =>
  z_g ((z32 t ∧ z32 r.1) ∧ t = r.1) <|
  z_g (r.1 = 0 → z32 q.1 ∧ z64 (q.2 199 0) ∧ z64 q.1 ∧ q.2 199 0 = q.1) <|
  some q.2
def S_X12 (st : z_St) : z_St := z_up (z_up st 168 21 500) 168 22 1
def z_s0 : z_St := S_X12 (S_X11 (fun _ _ => 0))
