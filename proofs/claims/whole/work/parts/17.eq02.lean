set_option maxRecDepth 20000 in
theorem D13 : dOK 13 [(0, .aload_n 0, 1), (1, .iload_n 1, 1), (2, .putfield 26, 3), (5, .aload_n 0, 1), (6, .iload_n 2, 1), (7, .putfield 30, 3), (10, .aload_n 0, 1), (11, .iconst 0, 1), (12, .putfield 33, 3), (15, .return_, 1)] = true := by decide +kernel
theorem E13_0 {d sl : Nat} {p : Nat → Nat} {I : Nat → Nat → Int32} {J : Nat → Nat → Int64} {a0 : Nat} (a1 : Int32) (a2 : Int32) (h0 : a0 < 30) : den d 13 [.ref (400 + a0), .int a1, .int a2] (S sl p I J) = some (none, (S sl p (up2 (up2 (up2 I (400 + a0) 3 a1) (400 + a0) 4 a2) (400 + a0) 5 0) J)) := by
  refine (show den d 13 [.ref (400 + a0), .int a1, .int a2] (S sl p I J) = ev d 13 0 [.ref (400 + a0), .int a1, .int a2] [] (S sl p I J) from rfl).trans ?_
  refine (r_aln (dk D13 0 rfl) rfl).trans ?_
  refine (r_iln (dk D13 1 rfl) rfl).trans ?_
  refine (r_putI (dk D13 2 rfl) ow13 w2_26 (obG h0)).trans ?_
  refine (r_aln (dk D13 3 rfl) rfl).trans ?_
  refine (r_iln (dk D13 4 rfl) rfl).trans ?_
  refine (r_putI (dk D13 5 rfl) ow13 w2_30 (obG h0)).trans ?_
  refine (r_aln (dk D13 6 rfl) rfl).trans ?_
  refine (r_ic (dk D13 7 rfl) ci0).trans ?_
  refine (r_putZ (dk D13 8 rfl) ow13 w2_33 (obG h0) (by decide)).trans ?_
  exact r_rev (dk D13 9 rfl) rt13
set_option maxRecDepth 20000 in
theorem D14 : dOK 14 [(0, .iload_n 1, 1), (1, .tableswitch 124 0 11 #[63, 69, 77, 83, 124, 124, 124, 89, 97, 106, 112, 118], 63), (64, .aload_n 0, 1), (65, .getfield 26, 3), (68, .i2l, 1), (69, .lreturn, 1), (70, .aload_n 0, 1), (71, .getfield 10, 3), (74, .getfield 37, 3), (77, .lreturn, 1), (78, .aload_n 0, 1), (79, .getfield 41, 3), (82, .i2l, 1), (83, .lreturn, 1), (84, .aload_n 0, 1), (85, .getfield 44, 3), (88, .i2l, 1), (89, .lreturn, 1), (90, .aload_n 0, 1), (91, .getfield 10, 3), (94, .invokevirtual 47, 3), (97, .lreturn, 1), (98, .aload_n 0, 1), (99, .getfield 10, 3), (102, .invokevirtual 51, 3), (105, .i2l, 1), (106, .lreturn, 1), (107, .aload_n 0, 1), (108, .getfield 55, 3), (111, .i2l, 1), (112, .lreturn, 1), (113, .aload_n 0, 1), (114, .getfield 58, 3), (117, .i2l, 1), (118, .lreturn, 1), (119, .aload_n 0, 1), (120, .getfield 61, 3), (123, .i2l, 1), (124, .lreturn, 1), (125, .aload_n 0, 1), (126, .getfield 23, 3), (129, .iload_n 1, 1), (130, .iconst 4, 1), (131, .isub, 1), (132, .invokevirtual 64, 3), (135, .lreturn, 1)] = true := by decide +kernel
theorem E14_0 {d sl : Nat} {p : Nat → Nat} {I : Nat → Nat → Int32} {J : Nat → Nat → Int64} {a0 : Nat} (a1 : Int32) (h0 : a0 < 30) : den (d + 1) 14 [.ref (400 + a0), .int a1] (S sl p I J) = (if a1 = 0 then some (some (.long (Int32.toInt64 (I (400 + a0) 3))), (S sl p I J)) else (if a1 = 1 then some (some (.long (J (500 + a0) 1)), (S sl p I J)) else (if a1 = 2 then some (some (.long (Int32.toInt64 (I (400 + a0) 7))), (S sl p I J)) else (if a1 = 3 then some (some (.long (Int32.toInt64 (I (400 + a0) 8))), (S sl p I J)) else (if a1 = 4 then evK (d + 1) 14 135 [.ref (400 + a0), .int a1] [] (den d 3 [.ref (800 + a0), .int (a1 - 4)] (S sl p I J)) else (if a1 = 5 then evK (d + 1) 14 135 [.ref (400 + a0), .int a1] [] (den d 3 [.ref (800 + a0), .int (a1 - 4)] (S sl p I J)) else (if a1 = 6 then evK (d + 1) 14 135 [.ref (400 + a0), .int a1] [] (den d 3 [.ref (800 + a0), .int (a1 - 4)] (S sl p I J)) else (if a1 = 7 then evK (d + 1) 14 97 [.ref (400 + a0), .int a1] [] (den d 18 [.ref (500 + a0)] (S sl p I J)) else (if a1 = 8 then evK (d + 1) 14 105 [.ref (400 + a0), .int a1] [] (den d 19 [.ref (500 + a0)] (S sl p I J)) else (if a1 = 9 then some (some (.long (Int32.toInt64 (I (400 + a0) 9))), (S sl p I J)) else (if a1 = 10 then some (some (.long (Int32.toInt64 (I (400 + a0) 10))), (S sl p I J)) else (if a1 = 11 then some (some (.long (Int32.toInt64 (I (400 + a0) 6))), (S sl p I J)) else evK (d + 1) 14 135 [.ref (400 + a0), .int a1] [] (den d 3 [.ref (800 + a0), .int (a1 - 4)] (S sl p I J)))))))))))))) := by
  refine (show den (d + 1) 14 [.ref (400 + a0), .int a1] (S sl p I J) = ev (d + 1) 14 0 [.ref (400 + a0), .int a1] [] (S sl p I J) from rfl).trans ?_
  refine (r_iln (dk D14 0 rfl) rfl).trans ?_
  by_cases hs0 : a1 = 0
  · rw [if_pos hs0]
    refine (r_sw (t := 64) (dk D14 1 rfl) (by rw [hs0]; rfl)).trans ?_
    refine (r_aln (dk D14 2 rfl) rfl).trans ?_
    refine (r_getI (dk D14 3 rfl) ow14 q2_26 (obG h0)).trans ?_
    refine (r_i2l (dk D14 4 rfl)).trans ?_
    exact r_rel (dk D14 5 rfl) rt14
  rw [if_neg hs0]
  by_cases hs1 : a1 = 1
  · rw [if_pos hs1]
    refine (r_sw (t := 70) (dk D14 1 rfl) (by rw [hs1]; rfl)).trans ?_
    refine (r_aln (dk D14 6 rfl) rfl).trans ?_
    refine (r_getR (dk D14 7 rfl) ow14 q2_10 (obG h0) (rfG0 h0)).trans ?_
    refine (r_getJ (dk D14 8 rfl) ow14 q2_37 (ob500 h0)).trans ?_
    exact r_rel (dk D14 9 rfl) rt14
  rw [if_neg hs1]
  by_cases hs2 : a1 = 2
  · rw [if_pos hs2]
    refine (r_sw (t := 78) (dk D14 1 rfl) (by rw [hs2]; rfl)).trans ?_
    refine (r_aln (dk D14 10 rfl) rfl).trans ?_
    refine (r_getI (dk D14 11 rfl) ow14 q2_41 (obG h0)).trans ?_
    refine (r_i2l (dk D14 12 rfl)).trans ?_
    exact r_rel (dk D14 13 rfl) rt14
  rw [if_neg hs2]
  by_cases hs3 : a1 = 3
  · rw [if_pos hs3]
    refine (r_sw (t := 84) (dk D14 1 rfl) (by rw [hs3]; rfl)).trans ?_
    refine (r_aln (dk D14 14 rfl) rfl).trans ?_
    refine (r_getI (dk D14 15 rfl) ow14 q2_44 (obG h0)).trans ?_
    refine (r_i2l (dk D14 16 rfl)).trans ?_
    exact r_rel (dk D14 17 rfl) rt14
  rw [if_neg hs3]
  by_cases hs4 : a1 = 4
  · rw [if_pos hs4]
    refine (r_sw (t := 125) (dk D14 1 rfl) (by rw [hs4]; rfl)).trans ?_
    refine (r_aln (dk D14 39 rfl) rfl).trans ?_
    refine (r_getR (dk D14 40 rfl) ow14 q2_23 (obG h0) (rfG2 h0)).trans ?_
    refine (r_iln (dk D14 41 rfl) rfl).trans ?_
    refine (r_ic (dk D14 42 rfl) ci4).trans ?_
    refine (r_isub (dk D14 43 rfl)).trans ?_
    exact r_cv (dk D14 44 rfl) ow14 c2_64 mf3 (Nat.le_of_ble_eq_true rfl) rfl rfl (Nat.le_of_ble_eq_true rfl) (Nat.le_of_ble_eq_true rfl) (ob800 h0)
  rw [if_neg hs4]
  by_cases hs5 : a1 = 5
  · rw [if_pos hs5]
    refine (r_sw (t := 125) (dk D14 1 rfl) (by rw [hs5]; rfl)).trans ?_
    refine (r_aln (dk D14 39 rfl) rfl).trans ?_
    refine (r_getR (dk D14 40 rfl) ow14 q2_23 (obG h0) (rfG2 h0)).trans ?_
    refine (r_iln (dk D14 41 rfl) rfl).trans ?_
    refine (r_ic (dk D14 42 rfl) ci4).trans ?_
    refine (r_isub (dk D14 43 rfl)).trans ?_
    exact r_cv (dk D14 44 rfl) ow14 c2_64 mf3 (Nat.le_of_ble_eq_true rfl) rfl rfl (Nat.le_of_ble_eq_true rfl) (Nat.le_of_ble_eq_true rfl) (ob800 h0)
  rw [if_neg hs5]
  by_cases hs6 : a1 = 6
  · rw [if_pos hs6]
    refine (r_sw (t := 125) (dk D14 1 rfl) (by rw [hs6]; rfl)).trans ?_
    refine (r_aln (dk D14 39 rfl) rfl).trans ?_
    refine (r_getR (dk D14 40 rfl) ow14 q2_23 (obG h0) (rfG2 h0)).trans ?_
    refine (r_iln (dk D14 41 rfl) rfl).trans ?_
    refine (r_ic (dk D14 42 rfl) ci4).trans ?_
    refine (r_isub (dk D14 43 rfl)).trans ?_
    exact r_cv (dk D14 44 rfl) ow14 c2_64 mf3 (Nat.le_of_ble_eq_true rfl) rfl rfl (Nat.le_of_ble_eq_true rfl) (Nat.le_of_ble_eq_true rfl) (ob800 h0)
  rw [if_neg hs6]
  by_cases hs7 : a1 = 7
  · rw [if_pos hs7]
    refine (r_sw (t := 90) (dk D14 1 rfl) (by rw [hs7]; rfl)).trans ?_
    refine (r_aln (dk D14 18 rfl) rfl).trans ?_
    refine (r_getR (dk D14 19 rfl) ow14 q2_10 (obG h0) (rfG0 h0)).trans ?_
    exact r_cv (dk D14 20 rfl) ow14 c2_47 mf18 (Nat.le_of_ble_eq_true rfl) rfl rfl (Nat.le_of_ble_eq_true rfl) (Nat.le_of_ble_eq_true rfl) (ob500 h0)
  rw [if_neg hs7]
  by_cases hs8 : a1 = 8
  · rw [if_pos hs8]
    refine (r_sw (t := 98) (dk D14 1 rfl) (by rw [hs8]; rfl)).trans ?_
    refine (r_aln (dk D14 22 rfl) rfl).trans ?_
    refine (r_getR (dk D14 23 rfl) ow14 q2_10 (obG h0) (rfG0 h0)).trans ?_
    exact r_cv (dk D14 24 rfl) ow14 c2_51 mf19 (Nat.le_of_ble_eq_true rfl) rfl rfl (Nat.le_of_ble_eq_true rfl) (Nat.le_of_ble_eq_true rfl) (ob500 h0)
  rw [if_neg hs8]
  by_cases hs9 : a1 = 9
  · rw [if_pos hs9]
    refine (r_sw (t := 107) (dk D14 1 rfl) (by rw [hs9]; rfl)).trans ?_
    refine (r_aln (dk D14 27 rfl) rfl).trans ?_
    refine (r_getI (dk D14 28 rfl) ow14 q2_55 (obG h0)).trans ?_
    refine (r_i2l (dk D14 29 rfl)).trans ?_
    exact r_rel (dk D14 30 rfl) rt14
  rw [if_neg hs9]
  by_cases hs10 : a1 = 10
  · rw [if_pos hs10]
    refine (r_sw (t := 113) (dk D14 1 rfl) (by rw [hs10]; rfl)).trans ?_
    refine (r_aln (dk D14 31 rfl) rfl).trans ?_
    refine (r_getI (dk D14 32 rfl) ow14 q2_58 (obG h0)).trans ?_
    refine (r_i2l (dk D14 33 rfl)).trans ?_
    exact r_rel (dk D14 34 rfl) rt14
  rw [if_neg hs10]
  by_cases hs11 : a1 = 11
  · rw [if_pos hs11]
    refine (r_sw (t := 119) (dk D14 1 rfl) (by rw [hs11]; rfl)).trans ?_
    refine (r_aln (dk D14 35 rfl) rfl).trans ?_
    refine (r_getI (dk D14 36 rfl) ow14 q2_61 (obG h0)).trans ?_
    refine (r_i2l (dk D14 37 rfl)).trans ?_
    exact r_rel (dk D14 38 rfl) rt14
  rw [if_neg hs11]
  refine (r_swd (t := 125) (dk D14 1 rfl) (swd_12 hs0 hs1 hs2 hs3 hs4 hs5 hs6 hs7 hs8 hs9 hs10 hs11) rfl).trans ?_
  refine (r_aln (dk D14 39 rfl) rfl).trans ?_
  refine (r_getR (dk D14 40 rfl) ow14 q2_23 (obG h0) (rfG2 h0)).trans ?_
  refine (r_iln (dk D14 41 rfl) rfl).trans ?_
  refine (r_ic (dk D14 42 rfl) ci4).trans ?_
  refine (r_isub (dk D14 43 rfl)).trans ?_
  exact r_cv (dk D14 44 rfl) ow14 c2_64 mf3 (Nat.le_of_ble_eq_true rfl) rfl rfl (Nat.le_of_ble_eq_true rfl) (Nat.le_of_ble_eq_true rfl) (ob800 h0)
theorem E14_97 {d sl : Nat} {p : Nat → Nat} {I : Nat → Nat → Int32} {J : Nat → Nat → Int64} {l0 : Nat} (l1 : Int32) (s0 : Int64) (hl0 : l0 < 30) : ev d 14 97 [.ref (400 + l0), .int l1] [.long s0] (S sl p I J) = some (some (.long s0), (S sl p I J)) := by
  exact r_rel (dk D14 21 rfl) rt14
theorem E14_105 {d sl : Nat} {p : Nat → Nat} {I : Nat → Nat → Int32} {J : Nat → Nat → Int64} {l0 : Nat} (l1 : Int32) (s0 : Int32) (hl0 : l0 < 30) : ev d 14 105 [.ref (400 + l0), .int l1] [.int s0] (S sl p I J) = some (some (.long (Int32.toInt64 s0)), (S sl p I J)) := by
  refine (r_i2l (dk D14 25 rfl)).trans ?_
  exact r_rel (dk D14 26 rfl) rt14
theorem E14_135 {d sl : Nat} {p : Nat → Nat} {I : Nat → Nat → Int32} {J : Nat → Nat → Int64} {l0 : Nat} (l1 : Int32) (s0 : Int64) (hl0 : l0 < 30) : ev d 14 135 [.ref (400 + l0), .int l1] [.long s0] (S sl p I J) = some (some (.long s0), (S sl p I J)) := by
  exact r_rel (dk D14 45 rfl) rt14
