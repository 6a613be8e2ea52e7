set_option maxRecDepth 20000 in
theorem D10 : dOK 10 [(0, .aload_n 0, 1), (1, .iload_n 1, 1), (2, .putfield 20, 3), (5, .aload_n 0, 1), (6, .iload_n 2, 1), (7, .putfield 23, 3), (10, .aload_n 0, 1), (11, .iload_n 1, 1), (12, .iload_n 2, 1), (13, .invokestatic 26, 3), (16, .putfield 32, 3), (19, .aload_n 0, 1), (20, .aload_n 0, 1), (21, .getfield 32, 3), (24, .iload_n 2, 1), (25, .invokestatic 35, 3), (28, .putfield 38, 3), (31, .return_, 1)] = true := by decide +kernel
theorem E10_0 {d sl : Nat} {p : Nat → Nat} {I : Nat → Nat → Int32} {J : Nat → Nat → Int64} {a0 : Nat} (a1 : Int32) (a2 : Int32) (h0 : a0 < 60) : den (d + 1) 10 [.ref (200 + a0), .int a1, .int a2] (S sl p I J) = evK (d + 1) 10 16 [.ref (200 + a0), .int a1, .int a2] [.ref (200 + a0)] (den d 173 [.int a1, .int a2] (S sl p (up2 (up2 I (200 + a0) 3 a1) (200 + a0) 4 a2) J)) := by
  refine (show den (d + 1) 10 [.ref (200 + a0), .int a1, .int a2] (S sl p I J) = ev (d + 1) 10 0 [.ref (200 + a0), .int a1, .int a2] [] (S sl p I J) from rfl).trans ?_
  refine (r_aln (dk D10 0 rfl) rfl).trans ?_
  refine (r_iln (dk D10 1 rfl) rfl).trans ?_
  refine (r_putI (dk D10 2 rfl) ow10 w1_20 (obC h0)).trans ?_
  refine (r_aln (dk D10 3 rfl) rfl).trans ?_
  refine (r_iln (dk D10 4 rfl) rfl).trans ?_
  refine (r_putI (dk D10 5 rfl) ow10 w1_23 (obC h0)).trans ?_
  refine (r_aln (dk D10 6 rfl) rfl).trans ?_
  refine (r_iln (dk D10 7 rfl) rfl).trans ?_
  refine (r_iln (dk D10 8 rfl) rfl).trans ?_
  exact r_cs (dk D10 9 rfl) ow10 pn1_26 c1_26 mf173 (Nat.le_of_ble_eq_true rfl) rfl rfl (Nat.le_of_ble_eq_true rfl) (Nat.le_of_ble_eq_true rfl)
theorem E10_16 {d sl : Nat} {p : Nat → Nat} {I : Nat → Nat → Int32} {J : Nat → Nat → Int64} {l0 : Nat} (l1 : Int32) (l2 : Int32) (s0 : Int32) {s1 : Nat} (hl0 : l0 < 60) (hs1 : s1 < 60) : ev (d + 1) 10 16 [.ref (200 + l0), .int l1, .int l2] [.int s0, .ref (200 + s1)] (S sl p I J) = evK (d + 1) 10 28 [.ref (200 + l0), .int l1, .int l2] [.ref (200 + l0)] (den d 174 [.int ((up2 I (200 + s1) 6 s0) (200 + l0) 6), .int l2] (S sl p (up2 I (200 + s1) 6 s0) J)) := by
  refine (r_putI (dk D10 10 rfl) ow10 w1_32 (obC hs1)).trans ?_
  refine (r_aln (dk D10 11 rfl) rfl).trans ?_
  refine (r_aln (dk D10 12 rfl) rfl).trans ?_
  refine (r_getI (dk D10 13 rfl) ow10 q1_32 (obC hl0)).trans ?_
  refine (r_iln (dk D10 14 rfl) rfl).trans ?_
  exact r_cs (dk D10 15 rfl) ow10 pn1_35 c1_35 mf174 (Nat.le_of_ble_eq_true rfl) rfl rfl (Nat.le_of_ble_eq_true rfl) (Nat.le_of_ble_eq_true rfl)
theorem E10_28 {d sl : Nat} {p : Nat → Nat} {I : Nat → Nat → Int32} {J : Nat → Nat → Int64} {l0 : Nat} (l1 : Int32) (l2 : Int32) (s0 : Int32) {s1 : Nat} (hl0 : l0 < 60) (hs1 : s1 < 60) : ev d 10 28 [.ref (200 + l0), .int l1, .int l2] [.int s0, .ref (200 + s1)] (S sl p I J) = some (none, (S sl p (up2 I (200 + s1) 7 s0) J)) := by
  refine (r_putI (dk D10 16 rfl) ow10 w1_38 (obC hs1)).trans ?_
  exact r_rev (dk D10 17 rfl) rt10
set_option maxRecDepth 20000 in
theorem D11 : dOK 11 [(0, .iload_n 1, 1), (1, .tableswitch 72 0 7 #[47, 52, 57, 62, 72, 72, 72, 67], 47), (48, .aload_n 0, 1), (49, .getfield 41, 3), (52, .ireturn, 1), (53, .aload_n 0, 1), (54, .getfield 20, 3), (57, .ireturn, 1), (58, .aload_n 0, 1), (59, .getfield 23, 3), (62, .ireturn, 1), (63, .aload_n 0, 1), (64, .getfield 44, 3), (67, .ireturn, 1), (68, .aload_n 0, 1), (69, .getfield 47, 3), (72, .ireturn, 1), (73, .aload_n 0, 1), (74, .getfield 16, 3), (77, .iload_n 1, 1), (78, .iconst 4, 1), (79, .isub, 1), (80, .invokevirtual 50, 3), (83, .l2i, 1), (84, .ireturn, 1)] = true := by decide +kernel
theorem E11_0 {d sl : Nat} {p : Nat → Nat} {I : Nat → Nat → Int32} {J : Nat → Nat → Int64} {a0 : Nat} (a1 : Int32) (h0 : a0 < 60) : den (d + 1) 11 [.ref (200 + a0), .int a1] (S sl p I J) = (if a1 = 0 then some (some (.int (I (200 + a0) 2)), (S sl p I J)) else (if a1 = 1 then some (some (.int (I (200 + a0) 3)), (S sl p I J)) else (if a1 = 2 then some (some (.int (I (200 + a0) 4)), (S sl p I J)) else (if a1 = 3 then some (some (.int (I (200 + a0) 5)), (S sl p I J)) else (if a1 = 4 then evK (d + 1) 11 83 [.ref (200 + a0), .int a1] [] (den d 3 [.ref (300 + a0), .int (a1 - 4)] (S sl p I J)) else (if a1 = 5 then evK (d + 1) 11 83 [.ref (200 + a0), .int a1] [] (den d 3 [.ref (300 + a0), .int (a1 - 4)] (S sl p I J)) else (if a1 = 6 then evK (d + 1) 11 83 [.ref (200 + a0), .int a1] [] (den d 3 [.ref (300 + a0), .int (a1 - 4)] (S sl p I J)) else (if a1 = 7 then some (some (.int (I (200 + a0) 8)), (S sl p I J)) else evK (d + 1) 11 83 [.ref (200 + a0), .int a1] [] (den d 3 [.ref (300 + a0), .int (a1 - 4)] (S sl p I J)))))))))) := by
  refine (show den (d + 1) 11 [.ref (200 + a0), .int a1] (S sl p I J) = ev (d + 1) 11 0 [.ref (200 + a0), .int a1] [] (S sl p I J) from rfl).trans ?_
  refine (r_iln (dk D11 0 rfl) rfl).trans ?_
  by_cases hs0 : a1 = 0
  · rw [if_pos hs0]
    refine (r_sw (t := 48) (dk D11 1 rfl) (by rw [hs0]; rfl)).trans ?_
    refine (r_aln (dk D11 2 rfl) rfl).trans ?_
    refine (r_getI (dk D11 3 rfl) ow11 q1_41 (obC h0)).trans ?_
    exact r_ret (dk D11 4 rfl) rt11
  rw [if_neg hs0]
  by_cases hs1 : a1 = 1
  · rw [if_pos hs1]
    refine (r_sw (t := 53) (dk D11 1 rfl) (by rw [hs1]; rfl)).trans ?_
    refine (r_aln (dk D11 5 rfl) rfl).trans ?_
    refine (r_getI (dk D11 6 rfl) ow11 q1_20 (obC h0)).trans ?_
    exact r_ret (dk D11 7 rfl) rt11
  rw [if_neg hs1]
  by_cases hs2 : a1 = 2
  · rw [if_pos hs2]
    refine (r_sw (t := 58) (dk D11 1 rfl) (by rw [hs2]; rfl)).trans ?_
    refine (r_aln (dk D11 8 rfl) rfl).trans ?_
    refine (r_getI (dk D11 9 rfl) ow11 q1_23 (obC h0)).trans ?_
    exact r_ret (dk D11 10 rfl) rt11
  rw [if_neg hs2]
  by_cases hs3 : a1 = 3
  · rw [if_pos hs3]
    refine (r_sw (t := 63) (dk D11 1 rfl) (by rw [hs3]; rfl)).trans ?_
    refine (r_aln (dk D11 11 rfl) rfl).trans ?_
    refine (r_getI (dk D11 12 rfl) ow11 q1_44 (obC h0)).trans ?_
    exact r_ret (dk D11 13 rfl) rt11
  rw [if_neg hs3]
  by_cases hs4 : a1 = 4
  · rw [if_pos hs4]
    refine (r_sw (t := 73) (dk D11 1 rfl) (by rw [hs4]; rfl)).trans ?_
    refine (r_aln (dk D11 17 rfl) rfl).trans ?_
    refine (r_getR (dk D11 18 rfl) ow11 q1_16 (obC h0) (rfC h0)).trans ?_
    refine (r_iln (dk D11 19 rfl) rfl).trans ?_
    refine (r_ic (dk D11 20 rfl) ci4).trans ?_
    refine (r_isub (dk D11 21 rfl)).trans ?_
    exact r_cv (dk D11 22 rfl) ow11 c1_50 mf3 (Nat.le_of_ble_eq_true rfl) rfl rfl (Nat.le_of_ble_eq_true rfl) (Nat.le_of_ble_eq_true rfl) (obP h0)
  rw [if_neg hs4]
  by_cases hs5 : a1 = 5
  · rw [if_pos hs5]
    refine (r_sw (t := 73) (dk D11 1 rfl) (by rw [hs5]; rfl)).trans ?_
    refine (r_aln (dk D11 17 rfl) rfl).trans ?_
    refine (r_getR (dk D11 18 rfl) ow11 q1_16 (obC h0) (rfC h0)).trans ?_
    refine (r_iln (dk D11 19 rfl) rfl).trans ?_
    refine (r_ic (dk D11 20 rfl) ci4).trans ?_
    refine (r_isub (dk D11 21 rfl)).trans ?_
    exact r_cv (dk D11 22 rfl) ow11 c1_50 mf3 (Nat.le_of_ble_eq_true rfl) rfl rfl (Nat.le_of_ble_eq_true rfl) (Nat.le_of_ble_eq_true rfl) (obP h0)
  rw [if_neg hs5]
  by_cases hs6 : a1 = 6
  · rw [if_pos hs6]
    refine (r_sw (t := 73) (dk D11 1 rfl) (by rw [hs6]; rfl)).trans ?_
    refine (r_aln (dk D11 17 rfl) rfl).trans ?_
    refine (r_getR (dk D11 18 rfl) ow11 q1_16 (obC h0) (rfC h0)).trans ?_
    refine (r_iln (dk D11 19 rfl) rfl).trans ?_
    refine (r_ic (dk D11 20 rfl) ci4).trans ?_
    refine (r_isub (dk D11 21 rfl)).trans ?_
    exact r_cv (dk D11 22 rfl) ow11 c1_50 mf3 (Nat.le_of_ble_eq_true rfl) rfl rfl (Nat.le_of_ble_eq_true rfl) (Nat.le_of_ble_eq_true rfl) (obP h0)
  rw [if_neg hs6]
  by_cases hs7 : a1 = 7
  · rw [if_pos hs7]
    refine (r_sw (t := 68) (dk D11 1 rfl) (by rw [hs7]; rfl)).trans ?_
    refine (r_aln (dk D11 14 rfl) rfl).trans ?_
    refine (r_getI (dk D11 15 rfl) ow11 q1_47 (obC h0)).trans ?_
    exact r_ret (dk D11 16 rfl) rt11
  rw [if_neg hs7]
  refine (r_swd (t := 73) (dk D11 1 rfl) (swd_8 hs0 hs1 hs2 hs3 hs4 hs5 hs6 hs7) rfl).trans ?_
  refine (r_aln (dk D11 17 rfl) rfl).trans ?_
  refine (r_getR (dk D11 18 rfl) ow11 q1_16 (obC h0) (rfC h0)).trans ?_
  refine (r_iln (dk D11 19 rfl) rfl).trans ?_
  refine (r_ic (dk D11 20 rfl) ci4).trans ?_
  refine (r_isub (dk D11 21 rfl)).trans ?_
  exact r_cv (dk D11 22 rfl) ow11 c1_50 mf3 (Nat.le_of_ble_eq_true rfl) rfl rfl (Nat.le_of_ble_eq_true rfl) (Nat.le_of_ble_eq_true rfl) (obP h0)
theorem E11_83 {d sl : Nat} {p : Nat → Nat} {I : Nat → Nat → Int32} {J : Nat → Nat → Int64} {l0 : Nat} (l1 : Int32) (s0 : Int64) (hl0 : l0 < 60) : ev d 11 83 [.ref (200 + l0), .int l1] [.long s0] (S sl p I J) = some (some (.int (Int64.toInt32 s0)), (S sl p I J)) := by
  refine (r_l2i (dk D11 23 rfl)).trans ?_
  exact r_ret (dk D11 24 rfl) rt11
