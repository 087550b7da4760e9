theorem dX11_partBits_0 : decode cX11_partBits 0 = .ok (.iload_n 0, 1) := by decide +kernel
theorem dX11_partBits_1 : decode cX11_partBits 1 = .ok (.ifCond .le 7, 3) := by decide +kernel
theorem dX11_partBits_4 : decode cX11_partBits 4 = .ok (.iload_n 1, 1) := by decide +kernel
theorem dX11_partBits_5 : decode cX11_partBits 5 = .ok (.ifCond .gt 5, 3) := by decide +kernel
theorem dX11_partBits_8 : decode cX11_partBits 8 = .ok (.iconst 0, 1) := by decide +kernel
theorem dX11_partBits_9 : decode cX11_partBits 9 = .ok (.ireturn, 1) := by decide +kernel
theorem dX11_partBits_10 : decode cX11_partBits 10 = .ok (.iload_n 0, 1) := by decide +kernel
theorem dX11_partBits_11 : decode cX11_partBits 11 = .ok (.i2f, 1) := by decide +kernel
theorem dX11_partBits_12 : decode cX11_partBits 12 = .ok (.iload_n 1, 1) := by decide +kernel
theorem dX11_partBits_13 : decode cX11_partBits 13 = .ok (.i2f, 1) := by decide +kernel
theorem dX11_partBits_14 : decode cX11_partBits 14 = .ok (.fdiv, 1) := by decide +kernel
theorem dX11_partBits_15 : decode cX11_partBits 15 = .ok (.fstore_n 2, 1) := by decide +kernel
theorem dX11_partBits_16 : decode cX11_partBits 16 = .ok (.bipush 127, 2) := by decide +kernel
theorem dX11_partBits_18 : decode cX11_partBits 18 = .ok (.istore_n 3, 1) := by decide +kernel
theorem dX11_partBits_19 : decode cX11_partBits 19 = .ok (.iconst 0, 1) := by decide +kernel
theorem dX11_partBits_20 : decode cX11_partBits 20 = .ok (.istore 4, 2) := by decide +kernel
theorem dX11_partBits_22 : decode cX11_partBits 22 = .ok (.iload 4, 2) := by decide +kernel
theorem dX11_partBits_24 : decode cX11_partBits 24 = .ok (.bipush 127, 2) := by decide +kernel
theorem dX11_partBits_26 : decode cX11_partBits 26 = .ok (.if_icmp .ge 22, 3) := by decide +kernel
theorem dX11_partBits_29 : decode cX11_partBits 29 = .ok (.fload_n 2, 1) := by decide +kernel
theorem dX11_partBits_30 : decode cX11_partBits 30 = .ok (.fconst 1, 1) := by decide +kernel
theorem dX11_partBits_31 : decode cX11_partBits 31 = .ok (.fcmp .g, 1) := by decide +kernel
theorem dX11_partBits_32 : decode cX11_partBits 32 = .ok (.ifCond .ge 16, 3) := by decide +kernel
theorem dX11_partBits_35 : decode cX11_partBits 35 = .ok (.fload_n 2, 1) := by decide +kernel
theorem dX11_partBits_36 : decode cX11_partBits 36 = .ok (.fconst 2, 1) := by decide +kernel
theorem dX11_partBits_37 : decode cX11_partBits 37 = .ok (.fmul, 1) := by decide +kernel
theorem dX11_partBits_38 : decode cX11_partBits 38 = .ok (.fstore_n 2, 1) := by decide +kernel
theorem dX11_partBits_39 : decode cX11_partBits 39 = .ok (.iinc 3 (-1), 3) := by decide +kernel
theorem dX11_partBits_42 : decode cX11_partBits 42 = .ok (.iinc 4 1, 3) := by decide +kernel
theorem dX11_partBits_45 : decode cX11_partBits 45 = .ok (.goto (-23), 3) := by decide +kernel
theorem dX11_partBits_48 : decode cX11_partBits 48 = .ok (.fload_n 2, 1) := by decide +kernel
theorem dX11_partBits_49 : decode cX11_partBits 49 = .ok (.fconst 1, 1) := by decide +kernel
theorem dX11_partBits_50 : decode cX11_partBits 50 = .ok (.fsub, 1) := by decide +kernel
theorem dX11_partBits_51 : decode cX11_partBits 51 = .ok (.ldc_w 391, 3) := by decide +kernel
theorem dX11_partBits_54 : decode cX11_partBits 54 = .ok (.fmul, 1) := by decide +kernel
theorem dX11_partBits_55 : decode cX11_partBits 55 = .ok (.f2i, 1) := by decide +kernel
theorem dX11_partBits_56 : decode cX11_partBits 56 = .ok (.istore 4, 2) := by decide +kernel
theorem dX11_partBits_58 : decode cX11_partBits 58 = .ok (.iload_n 3, 1) := by decide +kernel
theorem dX11_partBits_59 : decode cX11_partBits 59 = .ok (.bipush 23, 2) := by decide +kernel
theorem dX11_partBits_61 : decode cX11_partBits 61 = .ok (.ishl, 1) := by decide +kernel
theorem dX11_partBits_62 : decode cX11_partBits 62 = .ok (.iload 4, 2) := by decide +kernel
theorem dX11_partBits_64 : decode cX11_partBits 64 = .ok (.ior, 1) := by decide +kernel
theorem dX11_partBits_65 : decode cX11_partBits 65 = .ok (.ireturn, 1) := by decide +kernel
def z_ls : Nat → Int → Int → Int × Int
  | 0, top, _ => (top, 0)
  | n + 1, top, q => if top < q then ((z_ls n (top * 2) q).1, (z_ls n (top * 2) q).2 + 1) else (top, 0)
/-- the bits of the float nearest to p / q, by whole numbers -/
def z_bits (p q : Int) : Int := (127 - (z_ls 20 p q).2) * 8388608 + ((z_ls 20 p q).1 * 8388608 / q + (if q < 2 * ((z_ls 20 p q).1 * 8388608 % q) ∨ (2 * ((z_ls 20 p q).1 * 8388608 % q) = q ∧ (z_ls 20 p q).1 * 8388608 / q % 2 = 1) then 1 else 0)) - 8388608
def J_X11_partBits (x0 x1 : Int) (_ : z_St) : Option Int := z_g (1 ≤ x0 ∧ x0 ≤ x1 ∧ x1 ≤ 400) (some (z_bits x0 x1))
theorem c_X11_partBits {l : Launch} (hl : l.stackTraces = false) {a : Nat → Nat} {x0 x1 : Int} {st : z_St} {o : Int} (h : J_X11_partBits x0 x1 st = some o) : z_M 0 l yX11_partBits cX11_partBits 5 (some .int) 8 z_T z_N a [.int (zI x0), .int (zI x1)] st o st := sorry
