set_option maxRecDepth 20000 in
theorem D87 : dOK 87 [(0, .aload_n 0, 1), (1, .iload_n 1, 1), (2, .putfield 61, 3), (5, .aload_n 0, 1), (6, .iload_n 2, 1), (7, .putfield 65, 3), (10, .aload_n 0, 1), (11, .getfield 9, 3), (14, .dup, 1), (15, .getfield 74, 3), (18, .iconst 1, 1), (19, .iadd, 1), (20, .putfield 74, 3), (23, .return_, 1)] = true := by decide +kernel
theorem E87_0 {d sl : Nat} {p : Nat → Nat} {I : Nat → Nat → Int32} {J : Nat → Nat → Int64} (a1 : Int32) (a2 : Int32)  : den d 87 [.ref 11, .int a1, .int a2] (S sl p I J) = some (none, (S sl p (up2 (up2 (up2 I 11 12 a1) 11 13 a2) 4 10 (((up2 (up2 I 11 12 a1) 11 13 a2) 4 10) + 1)) J)) := by
  refine (show den d 87 [.ref 11, .int a1, .int a2] (S sl p I J) = ev d 87 0 [.ref 11, .int a1, .int a2] [] (S sl p I J) from rfl).trans ?_
  refine (r_aln (dk D87 0 rfl) rfl).trans ?_
  refine (r_iln (dk D87 1 rfl) rfl).trans ?_
  refine (r_putI (dk D87 2 rfl) ow87 w10_61 ob_11).trans ?_
  refine (r_aln (dk D87 3 rfl) rfl).trans ?_
  refine (r_iln (dk D87 4 rfl) rfl).trans ?_
  refine (r_putI (dk D87 5 rfl) ow87 w10_65 ob_11).trans ?_
  refine (r_aln (dk D87 6 rfl) rfl).trans ?_
  refine (r_getR (dk D87 7 rfl) ow87 q10_9 ob_11 rfl).trans ?_
  refine (r_dup (dk D87 8 rfl) rfl).trans ?_
  refine (r_getI (dk D87 9 rfl) ow87 q10_74 ob_4).trans ?_
  refine (r_ic (dk D87 10 rfl) ci1).trans ?_
  refine (r_iadd (dk D87 11 rfl)).trans ?_
  refine (r_putI (dk D87 12 rfl) ow87 w10_74 ob_4).trans ?_
  exact r_rev (dk D87 13 rfl) rt87
set_option maxRecDepth 20000 in
theorem D88 : dOK 88 [(0, .aload_n 0, 1), (1, .getfield 40, 3), (4, .iload_n 1, 1), (5, .iload_n 2, 1), (6, .iastore, 1), (7, .aload_n 0, 1), (8, .getfield 49, 3), (11, .iconst 0, 1), (12, .iload_n 1, 1), (13, .iastore, 1), (14, .iconst 1, 1), (15, .istore 5, 2), (17, .iconst 0, 1), (18, .istore 6, 2), (20, .iload 6, 2), (22, .iload 5, 2), (24, .if_icmp .ge 114, 3), (27, .iload 6, 2), (29, .bipush 60, 2), (31, .if_icmp .ge 107, 3), (34, .iconst 0, 1), (35, .istore 7, 2), (37, .iload 7, 2), (39, .aload_n 0, 1), (40, .getfield 9, 3), (43, .getfield 77, 3), (46, .if_icmp .ge 86, 3), (49, .aload_n 0, 1), (50, .getfield 40, 3), (53, .iload 7, 2), (55, .iaload, 1), (56, .iconst (-1), 1), (57, .if_icmp .ne 21, 3), (60, .iload 7, 2), (62, .iload 4, 2), (64, .if_icmp .eq 14, 3), (67, .iload 5, 2), (69, .bipush 60, 2), (71, .if_icmp .ge 7, 3), (74, .iconst 1, 1), (75, .goto 4, 3), (78, .iconst 0, 1), (79, .istore 8, 2), (81, .iload 8, 2), (83, .ifCond .eq 43, 3), (86, .aload_n 0, 1), (87, .getfield 9, 3), (90, .aload_n 0, 1), (91, .getfield 49, 3), (94, .iload 6, 2), (96, .iaload, 1), (97, .iload 7, 2), (99, .invokevirtual 80, 3), (102, .iload_n 3, 1), (103, .if_icmp .gt 23, 3), (106, .aload_n 0, 1), (107, .getfield 40, 3), (110, .iload 7, 2), (112, .iload_n 2, 1), (113, .iastore, 1), (114, .aload_n 0, 1), (115, .getfield 49, 3), (118, .iload 5, 2), (120, .iload 7, 2), (122, .iastore, 1), (123, .iinc 5 1, 3), (126, .iinc 7 1, 3), (129, .goto (-92), 3), (132, .iinc 6 1, 3), (135, .goto (-115), 3), (138, .iload 5, 2), (140, .ireturn, 1)] = true := by decide +kernel
theorem E88_0 {d sl : Nat} {p : Nat → Nat} {I : Nat → Nat → Int32} {J : Nat → Nat → Int64} (a1 : Int32) (a2 : Int32) (a3 : Int32) (a4 : Int32)  : den d 88 [.ref 11, .int a1, .int a2, .int a3, .int a4] (S sl p I J) = ck (ixb 60 a1) (ev d 88 20 [.ref 11, .int a1, .int a2, .int a3, .int a4, .int 1, .int 0, .retAddr 0, .retAddr 0] [] (S sl p (up2 (up2 I 15 (Int32.toNatClampNeg a1) a2) 18 0 a1) J)) := by
  refine (show den d 88 [.ref 11, .int a1, .int a2, .int a3, .int a4] (S sl p I J) = ev d 88 0 [.ref 11, .int a1, .int a2, .int a3, .int a4, .retAddr 0, .retAddr 0, .retAddr 0, .retAddr 0] [] (S sl p I J) from rfl).trans ?_
  refine (r_aln (dk D88 0 rfl) rfl).trans ?_
  refine (r_getR (dk D88 1 rfl) ow88 q10_40 ob_11 rfl).trans ?_
  refine (r_iln (dk D88 2 rfl) rfl).trans ?_
  refine (r_iln (dk D88 3 rfl) rfl).trans ?_
  refine (r_ist (dk D88 4 rfl) ar_15).trans (ck3 fun g1 => ?_)
  refine (r_aln (dk D88 5 rfl) rfl).trans ?_
  refine (r_getR (dk D88 6 rfl) ow88 q10_49 ob_11 rfl).trans ?_
  refine (r_ic (dk D88 7 rfl) ci0).trans ?_
  refine (r_iln (dk D88 8 rfl) rfl).trans ?_
  refine (r_istc (dk D88 9 rfl) ar_18 rfl rfl).trans ?_
  refine (r_ic (dk D88 10 rfl) ci1).trans ?_
  refine (r_is (L' := [.ref 11, .int a1, .int a2, .int a3, .int a4, .int 1, .retAddr 0, .retAddr 0, .retAddr 0]) (dk D88 11 rfl) (Nat.le_of_ble_eq_true rfl) rfl).trans ?_
  refine (r_ic (dk D88 12 rfl) ci0).trans ?_
  refine (r_is (L' := [.ref 11, .int a1, .int a2, .int a3, .int a4, .int 1, .int 0, .retAddr 0, .retAddr 0]) (dk D88 13 rfl) (Nat.le_of_ble_eq_true rfl) rfl).trans ?_
  exact rfl
theorem E88_20 {d sl : Nat} {p : Nat → Nat} {I : Nat → Nat → Int32} {J : Nat → Nat → Int64} (l1 : Int32) (l2 : Int32) (l3 : Int32) (l4 : Int32) (l5 : Int32) (l6 : Int32)  : ev d 88 20 [.ref 11, .int l1, .int l2, .int l3, .int l4, .int l5, .int l6, .retAddr 0, .retAddr 0] [] (S sl p I J) = (if l6 < l5 then (if l6 < 60 then ev d 88 37 [.ref 11, .int l1, .int l2, .int l3, .int l4, .int l5, .int l6, .int 0, .retAddr 0] [] (S sl p I J) else some (some (.int l5), (S sl p I J))) else some (some (.int l5), (S sl p I J))) := by
  refine (r_il (dk D88 14 rfl) rfl).trans ?_
  refine (r_il (dk D88 15 rfl) rfl).trans ?_
  refine (r_ge (dk D88 16 rfl) rfl).trans (ite2 ?_ ?_)
  · refine (r_il (dk D88 17 rfl) rfl).trans ?_
    refine (r_bp (dk D88 18 rfl) cb60).trans ?_
    refine (r_ge (dk D88 19 rfl) rfl).trans (ite2 ?_ ?_)
    · refine (r_ic (dk D88 20 rfl) ci0).trans ?_
      refine (r_is (L' := [.ref 11, .int l1, .int l2, .int l3, .int l4, .int l5, .int l6, .int 0, .retAddr 0]) (dk D88 21 rfl) (Nat.le_of_ble_eq_true rfl) rfl).trans ?_
      exact rfl
    · refine (r_il (dk D88 70 rfl) rfl).trans ?_
      exact r_ret (dk D88 71 rfl) rt88
  · refine (r_il (dk D88 70 rfl) rfl).trans ?_
    exact r_ret (dk D88 71 rfl) rt88
theorem E88_37 {d sl : Nat} {p : Nat → Nat} {I : Nat → Nat → Int32} {J : Nat → Nat → Int64} (l1 : Int32) (l2 : Int32) (l3 : Int32) (l4 : Int32) (l5 : Int32) (l6 : Int32) (l7 : Int32)  : ev d 88 37 [.ref 11, .int l1, .int l2, .int l3, .int l4, .int l5, .int l6, .int l7, .retAddr 0] [] (S sl p I J) = (if l7 < (I 4 8) then ck (ixb 60 l7) ((if (I 15 (Int32.toNatClampNeg l7)) = (-1) then (if l7 = l4 then ev d 88 78 [.ref 11, .int l1, .int l2, .int l3, .int l4, .int l5, .int l6, .int l7, .retAddr 0] [] (S sl p I J) else (if l5 < 60 then ev d 88 79 [.ref 11, .int l1, .int l2, .int l3, .int l4, .int l5, .int l6, .int l7, .retAddr 0] [.int 1] (S sl p I J) else ev d 88 78 [.ref 11, .int l1, .int l2, .int l3, .int l4, .int l5, .int l6, .int l7, .retAddr 0] [] (S sl p I J))) else ev d 88 78 [.ref 11, .int l1, .int l2, .int l3, .int l4, .int l5, .int l6, .int l7, .retAddr 0] [] (S sl p I J))) else ev d 88 20 [.ref 11, .int l1, .int l2, .int l3, .int l4, .int l5, .int (l6 + 1), .retAddr 0, .retAddr 0] [] (S sl p I J)) := by
  refine (r_il (dk D88 22 rfl) rfl).trans ?_
  refine (r_aln (dk D88 23 rfl) rfl).trans ?_
  refine (r_getR (dk D88 24 rfl) ow88 q10_9 ob_11 rfl).trans ?_
  refine (r_getI (dk D88 25 rfl) ow88 q10_77 ob_4).trans ?_
  refine (r_ge (dk D88 26 rfl) rfl).trans (ite2 ?_ ?_)
  · refine (r_aln (dk D88 27 rfl) rfl).trans ?_
    refine (r_getR (dk D88 28 rfl) ow88 q10_40 ob_11 rfl).trans ?_
    refine (r_il (dk D88 29 rfl) rfl).trans ?_
    refine (r_ild (dk D88 30 rfl) ar_15).trans (ck3 fun g1 => ?_)
    refine (r_ic (dk D88 31 rfl) cim1).trans ?_
    refine (r_ne (dk D88 32 rfl) rfl).trans (ite2 ?_ ?_)
    · refine (r_il (dk D88 33 rfl) rfl).trans ?_
      refine (r_il (dk D88 34 rfl) rfl).trans ?_
      refine (r_eq (dk D88 35 rfl) rfl).trans (ite2 ?_ ?_)
      · exact rfl
      · refine (r_il (dk D88 36 rfl) rfl).trans ?_
        refine (r_bp (dk D88 37 rfl) cb60).trans ?_
        refine (r_ge (dk D88 38 rfl) rfl).trans (ite2 ?_ ?_)
        · refine (r_ic (dk D88 39 rfl) ci1).trans ?_
          refine (r_goto (L' := [.ref 11, .int l1, .int l2, .int l3, .int l4, .int l5, .int l6, .int l7, .retAddr 0]) (dk D88 40 rfl) rfl nd88_79 rfl).trans ?_
          exact rfl
        · exact rfl
    · exact rfl
  · refine (r_inc (L' := [.ref 11, .int l1, .int l2, .int l3, .int l4, .int l5, .int (l6 + 1), .int l7, .retAddr 0]) (dk D88 68 rfl) rfl rfl ci1 (Nat.le_of_ble_eq_true rfl) rfl).trans ?_
    refine (r_goto (L' := [.ref 11, .int l1, .int l2, .int l3, .int l4, .int l5, .int (l6 + 1), .retAddr 0, .retAddr 0]) (dk D88 69 rfl) rfl nd88_20 rfl).trans ?_
    exact rfl
theorem E88_78 {d sl : Nat} {p : Nat → Nat} {I : Nat → Nat → Int32} {J : Nat → Nat → Int64} (l1 : Int32) (l2 : Int32) (l3 : Int32) (l4 : Int32) (l5 : Int32) (l6 : Int32) (l7 : Int32)  : ev d 88 78 [.ref 11, .int l1, .int l2, .int l3, .int l4, .int l5, .int l6, .int l7, .retAddr 0] [] (S sl p I J) = ev d 88 79 [.ref 11, .int l1, .int l2, .int l3, .int l4, .int l5, .int l6, .int l7, .retAddr 0] [.int 0] (S sl p I J) := by
  refine (r_ic (dk D88 41 rfl) ci0).trans ?_
  exact rfl
theorem E88_79 {d sl : Nat} {p : Nat → Nat} {I : Nat → Nat → Int32} {J : Nat → Nat → Int64} (l1 : Int32) (l2 : Int32) (l3 : Int32) (l4 : Int32) (l5 : Int32) (l6 : Int32) (l7 : Int32) (s0 : Int32)  : ev (d + 1) 88 79 [.ref 11, .int l1, .int l2, .int l3, .int l4, .int l5, .int l6, .int l7, .retAddr 0] [.int s0] (S sl p I J) = (if s0 = 0 then ev (d + 1) 88 37 [.ref 11, .int l1, .int l2, .int l3, .int l4, .int l5, .int l6, .int (l7 + 1), .retAddr 0] [] (S sl p I J) else ck (ixb 60 l6) (evK (d + 1) 88 102 [.ref 11, .int l1, .int l2, .int l3, .int l4, .int l5, .int l6, .int l7, .int s0] [] (den d 66 [.ref 4, .int (I 18 (Int32.toNatClampNeg l6)), .int l7] (S sl p I J)))) := by
  refine (r_is (L' := [.ref 11, .int l1, .int l2, .int l3, .int l4, .int l5, .int l6, .int l7, .int s0]) (dk D88 42 rfl) (Nat.le_of_ble_eq_true rfl) rfl).trans ?_
  refine (r_il (dk D88 43 rfl) rfl).trans ?_
  refine (r_eq0 (dk D88 44 rfl) rfl).trans (ite2 ?_ ?_)
  · refine (r_inc (L' := [.ref 11, .int l1, .int l2, .int l3, .int l4, .int l5, .int l6, .int (l7 + 1), .int s0]) (dk D88 66 rfl) rfl rfl ci1 (Nat.le_of_ble_eq_true rfl) rfl).trans ?_
    refine (r_goto (L' := [.ref 11, .int l1, .int l2, .int l3, .int l4, .int l5, .int l6, .int (l7 + 1), .retAddr 0]) (dk D88 67 rfl) rfl nd88_37 rfl).trans ?_
    exact rfl
  · refine (r_aln (dk D88 45 rfl) rfl).trans ?_
    refine (r_getR (dk D88 46 rfl) ow88 q10_9 ob_11 rfl).trans ?_
    refine (r_aln (dk D88 47 rfl) rfl).trans ?_
    refine (r_getR (dk D88 48 rfl) ow88 q10_49 ob_11 rfl).trans ?_
    refine (r_il (dk D88 49 rfl) rfl).trans ?_
    refine (r_ild (dk D88 50 rfl) ar_18).trans (ck3 fun g1 => ?_)
    refine (r_il (dk D88 51 rfl) rfl).trans ?_
    exact r_cv (dk D88 52 rfl) ow88 c10_80 mf66 (Nat.le_of_ble_eq_true rfl) rfl rfl (Nat.le_of_ble_eq_true rfl) (Nat.le_of_ble_eq_true rfl) ob_4
theorem E88_102 {d sl : Nat} {p : Nat → Nat} {I : Nat → Nat → Int32} {J : Nat → Nat → Int64} (l1 : Int32) (l2 : Int32) (l3 : Int32) (l4 : Int32) (l5 : Int32) (l6 : Int32) (l7 : Int32) (l8 : Int32) (s0 : Int32)  : ev d 88 102 [.ref 11, .int l1, .int l2, .int l3, .int l4, .int l5, .int l6, .int l7, .int l8] [.int s0] (S sl p I J) = (if s0 ≤ l3 then ck (ixb 60 l7) (ck (ixb 60 l5) (ev d 88 37 [.ref 11, .int l1, .int l2, .int l3, .int l4, .int (l5 + 1), .int l6, .int (l7 + 1), .retAddr 0] [] (S sl p (up2 (up2 I 15 (Int32.toNatClampNeg l7) l2) 18 (Int32.toNatClampNeg l5) l7) J))) else ev d 88 37 [.ref 11, .int l1, .int l2, .int l3, .int l4, .int l5, .int l6, .int (l7 + 1), .retAddr 0] [] (S sl p I J)) := by
  refine (r_iln (dk D88 53 rfl) rfl).trans ?_
  refine (r_gt (dk D88 54 rfl) rfl).trans (ite2 ?_ ?_)
  · refine (r_aln (dk D88 55 rfl) rfl).trans ?_
    refine (r_getR (dk D88 56 rfl) ow88 q10_40 ob_11 rfl).trans ?_
    refine (r_il (dk D88 57 rfl) rfl).trans ?_
    refine (r_iln (dk D88 58 rfl) rfl).trans ?_
    refine (r_ist (dk D88 59 rfl) ar_15).trans (ck3 fun g1 => ?_)
    refine (r_aln (dk D88 60 rfl) rfl).trans ?_
    refine (r_getR (dk D88 61 rfl) ow88 q10_49 ob_11 rfl).trans ?_
    refine (r_il (dk D88 62 rfl) rfl).trans ?_
    refine (r_il (dk D88 63 rfl) rfl).trans ?_
    refine (r_ist (dk D88 64 rfl) ar_18).trans (ck3 fun g2 => ?_)
    refine (r_inc (L' := [.ref 11, .int l1, .int l2, .int l3, .int l4, .int (l5 + 1), .int l6, .int l7, .int l8]) (dk D88 65 rfl) rfl rfl ci1 (Nat.le_of_ble_eq_true rfl) rfl).trans ?_
    refine (r_inc (L' := [.ref 11, .int l1, .int l2, .int l3, .int l4, .int (l5 + 1), .int l6, .int (l7 + 1), .int l8]) (dk D88 66 rfl) rfl rfl ci1 (Nat.le_of_ble_eq_true rfl) rfl).trans ?_
    refine (r_goto (L' := [.ref 11, .int l1, .int l2, .int l3, .int l4, .int (l5 + 1), .int l6, .int (l7 + 1), .retAddr 0]) (dk D88 67 rfl) rfl nd88_37 rfl).trans ?_
    exact rfl
  · refine (r_inc (L' := [.ref 11, .int l1, .int l2, .int l3, .int l4, .int l5, .int l6, .int (l7 + 1), .int l8]) (dk D88 66 rfl) rfl rfl ci1 (Nat.le_of_ble_eq_true rfl) rfl).trans ?_
    refine (r_goto (L' := [.ref 11, .int l1, .int l2, .int l3, .int l4, .int l5, .int l6, .int (l7 + 1), .retAddr 0]) (dk D88 67 rfl) rfl nd88_37 rfl).trans ?_
    exact rfl
set_option maxRecDepth 20000 in
theorem D89 : dOK 89 [(0, .iconst 0, 1), (1, .istore_n 1, 1), (2, .iload_n 1, 1), (3, .aload_n 0, 1), (4, .getfield 9, 3), (7, .getfield 77, 3), (10, .if_icmp .ge 16, 3), (13, .aload_n 0, 1), (14, .getfield 40, 3), (17, .iload_n 1, 1), (18, .iconst (-1), 1), (19, .iastore, 1), (20, .iinc 1 1, 3), (23, .goto (-21), 3), (26, .return_, 1)] = true := by decide +kernel
theorem E89_0 {d sl : Nat} {p : Nat → Nat} {I : Nat → Nat → Int32} {J : Nat → Nat → Int64}   : den d 89 [.ref 11] (S sl p I J) = ev d 89 2 [.ref 11, .int 0] [] (S sl p I J) := by
  refine (show den d 89 [.ref 11] (S sl p I J) = ev d 89 0 [.ref 11, .retAddr 0] [] (S sl p I J) from rfl).trans ?_
  refine (r_ic (dk D89 0 rfl) ci0).trans ?_
  refine (r_isn (L' := [.ref 11, .int 0]) (dk D89 1 rfl) (Nat.le_of_ble_eq_true rfl) rfl).trans ?_
  exact rfl
theorem E89_2 {d sl : Nat} {p : Nat → Nat} {I : Nat → Nat → Int32} {J : Nat → Nat → Int64} (l1 : Int32)  : ev d 89 2 [.ref 11, .int l1] [] (S sl p I J) = (if l1 < (I 4 8) then ck (ixb 60 l1) (ev d 89 2 [.ref 11, .int (l1 + 1)] [] (S sl p (up2 I 15 (Int32.toNatClampNeg l1) (-1)) J)) else some (none, (S sl p I J))) := by
  refine (r_iln (dk D89 2 rfl) rfl).trans ?_
  refine (r_aln (dk D89 3 rfl) rfl).trans ?_
  refine (r_getR (dk D89 4 rfl) ow89 q10_9 ob_11 rfl).trans ?_
  refine (r_getI (dk D89 5 rfl) ow89 q10_77 ob_4).trans ?_
  refine (r_ge (dk D89 6 rfl) rfl).trans (ite2 ?_ ?_)
  · refine (r_aln (dk D89 7 rfl) rfl).trans ?_
    refine (r_getR (dk D89 8 rfl) ow89 q10_40 ob_11 rfl).trans ?_
    refine (r_iln (dk D89 9 rfl) rfl).trans ?_
    refine (r_ic (dk D89 10 rfl) cim1).trans ?_
    refine (r_ist (dk D89 11 rfl) ar_15).trans (ck3 fun g1 => ?_)
    refine (r_inc (L' := [.ref 11, .int (l1 + 1)]) (dk D89 12 rfl) rfl rfl ci1 (Nat.le_of_ble_eq_true rfl) rfl).trans ?_
    refine (r_goto (L' := [.ref 11, .int (l1 + 1)]) (dk D89 13 rfl) rfl nd89_2 rfl).trans ?_
    exact rfl
  · exact r_rev (dk D89 14 rfl) rt89
set_option maxRecDepth 20000 in
theorem D90 : dOK 90 [(0, .aload_n 0, 1), (1, .invokevirtual 84, 3), (4, .iconst 0, 1), (5, .istore_n 3, 1), (6, .iconst 0, 1), (7, .istore 4, 2), (9, .iload 4, 2), (11, .aload_n 0, 1), (12, .getfield 9, 3), (15, .getfield 77, 3), (18, .if_icmp .ge 44, 3), (21, .aload_n 0, 1), (22, .getfield 40, 3), (25, .iload 4, 2), (27, .iaload, 1), (28, .iconst (-1), 1), (29, .if_icmp .ne 27, 3), (32, .iload 4, 2), (34, .iload_n 2, 1), (35, .if_icmp .eq 21, 3), (38, .aload_n 0, 1), (39, .getfield 43, 3), (42, .iload_n 3, 1), (43, .aload_n 0, 1), (44, .iload 4, 2), (46, .iload_n 3, 1), (47, .iload_n 1, 1), (48, .iload_n 2, 1), (49, .invokevirtual 87, 3), (52, .iastore, 1), (53, .iinc 3 1, 3), (56, .iinc 4 1, 3), (59, .goto (-50), 3), (62, .iload_n 3, 1), (63, .ireturn, 1)] = true := by decide +kernel
theorem E90_0 {d sl : Nat} {p : Nat → Nat} {I : Nat → Nat → Int32} {J : Nat → Nat → Int64} (a1 : Int32) (a2 : Int32)  : den (d + 1) 90 [.ref 11, .int a1, .int a2] (S sl p I J) = evK (d + 1) 90 4 [.ref 11, .int a1, .int a2, .retAddr 0, .retAddr 0] [] (den d 89 [.ref 11] (S sl p I J)) := by
  refine (show den (d + 1) 90 [.ref 11, .int a1, .int a2] (S sl p I J) = ev (d + 1) 90 0 [.ref 11, .int a1, .int a2, .retAddr 0, .retAddr 0] [] (S sl p I J) from rfl).trans ?_
  refine (r_aln (dk D90 0 rfl) rfl).trans ?_
  exact r_cv (dk D90 1 rfl) ow90 c10_84 mf89 (Nat.le_of_ble_eq_true rfl) rfl rfl (Nat.le_of_ble_eq_true rfl) (Nat.le_of_ble_eq_true rfl) ob_11
theorem E90_4 {d sl : Nat} {p : Nat → Nat} {I : Nat → Nat → Int32} {J : Nat → Nat → Int64} (l1 : Int32) (l2 : Int32)  : ev d 90 4 [.ref 11, .int l1, .int l2, .retAddr 0, .retAddr 0] [] (S sl p I J) = ev d 90 9 [.ref 11, .int l1, .int l2, .int 0, .int 0] [] (S sl p I J) := by
  refine (r_ic (dk D90 2 rfl) ci0).trans ?_
  refine (r_isn (L' := [.ref 11, .int l1, .int l2, .int 0, .retAddr 0]) (dk D90 3 rfl) (Nat.le_of_ble_eq_true rfl) rfl).trans ?_
  refine (r_ic (dk D90 4 rfl) ci0).trans ?_
  refine (r_is (L' := [.ref 11, .int l1, .int l2, .int 0, .int 0]) (dk D90 5 rfl) (Nat.le_of_ble_eq_true rfl) rfl).trans ?_
  exact rfl
theorem E90_9 {d sl : Nat} {p : Nat → Nat} {I : Nat → Nat → Int32} {J : Nat → Nat → Int64} (l1 : Int32) (l2 : Int32) (l3 : Int32) (l4 : Int32)  : ev (d + 1) 90 9 [.ref 11, .int l1, .int l2, .int l3, .int l4] [] (S sl p I J) = (if l4 < (I 4 8) then ck (ixb 60 l4) ((if (I 15 (Int32.toNatClampNeg l4)) = (-1) then (if l4 = l2 then ev (d + 1) 90 9 [.ref 11, .int l1, .int l2, .int l3, .int (l4 + 1)] [] (S sl p I J) else evK (d + 1) 90 52 [.ref 11, .int l1, .int l2, .int l3, .int l4] [.int l3, .ref 16] (den d 88 [.ref 11, .int l4, .int l3, .int l1, .int l2] (S sl p I J))) else ev (d + 1) 90 9 [.ref 11, .int l1, .int l2, .int l3, .int (l4 + 1)] [] (S sl p I J))) else some (some (.int l3), (S sl p I J))) := by
  refine (r_il (dk D90 6 rfl) rfl).trans ?_
  refine (r_aln (dk D90 7 rfl) rfl).trans ?_
  refine (r_getR (dk D90 8 rfl) ow90 q10_9 ob_11 rfl).trans ?_
  refine (r_getI (dk D90 9 rfl) ow90 q10_77 ob_4).trans ?_
  refine (r_ge (dk D90 10 rfl) rfl).trans (ite2 ?_ ?_)
  · refine (r_aln (dk D90 11 rfl) rfl).trans ?_
    refine (r_getR (dk D90 12 rfl) ow90 q10_40 ob_11 rfl).trans ?_
    refine (r_il (dk D90 13 rfl) rfl).trans ?_
    refine (r_ild (dk D90 14 rfl) ar_15).trans (ck3 fun g1 => ?_)
    refine (r_ic (dk D90 15 rfl) cim1).trans ?_
    refine (r_ne (dk D90 16 rfl) rfl).trans (ite2 ?_ ?_)
    · refine (r_il (dk D90 17 rfl) rfl).trans ?_
      refine (r_iln (dk D90 18 rfl) rfl).trans ?_
      refine (r_eq (dk D90 19 rfl) rfl).trans (ite2 ?_ ?_)
      · refine (r_inc (L' := [.ref 11, .int l1, .int l2, .int l3, .int (l4 + 1)]) (dk D90 31 rfl) rfl rfl ci1 (Nat.le_of_ble_eq_true rfl) rfl).trans ?_
        refine (r_goto (L' := [.ref 11, .int l1, .int l2, .int l3, .int (l4 + 1)]) (dk D90 32 rfl) rfl nd90_9 rfl).trans ?_
        exact rfl
      · refine (r_aln (dk D90 20 rfl) rfl).trans ?_
        refine (r_getR (dk D90 21 rfl) ow90 q10_43 ob_11 rfl).trans ?_
        refine (r_iln (dk D90 22 rfl) rfl).trans ?_
        refine (r_aln (dk D90 23 rfl) rfl).trans ?_
        refine (r_il (dk D90 24 rfl) rfl).trans ?_
        refine (r_iln (dk D90 25 rfl) rfl).trans ?_
        refine (r_iln (dk D90 26 rfl) rfl).trans ?_
        refine (r_iln (dk D90 27 rfl) rfl).trans ?_
        exact r_cv (dk D90 28 rfl) ow90 c10_87 mf88 (Nat.le_of_ble_eq_true rfl) rfl rfl (Nat.le_of_ble_eq_true rfl) (Nat.le_of_ble_eq_true rfl) ob_11
    · refine (r_inc (L' := [.ref 11, .int l1, .int l2, .int l3, .int (l4 + 1)]) (dk D90 31 rfl) rfl rfl ci1 (Nat.le_of_ble_eq_true rfl) rfl).trans ?_
      refine (r_goto (L' := [.ref 11, .int l1, .int l2, .int l3, .int (l4 + 1)]) (dk D90 32 rfl) rfl nd90_9 rfl).trans ?_
      exact rfl
  · refine (r_iln (dk D90 33 rfl) rfl).trans ?_
    exact r_ret (dk D90 34 rfl) rt90
theorem E90_52 {d sl : Nat} {p : Nat → Nat} {I : Nat → Nat → Int32} {J : Nat → Nat → Int64} (l1 : Int32) (l2 : Int32) (l3 : Int32) (l4 : Int32) (s0 : Int32) (s1 : Int32)  : ev d 90 52 [.ref 11, .int l1, .int l2, .int l3, .int l4] [.int s0, .int s1, .ref 16] (S sl p I J) = ck (ixb 60 s1) (ev d 90 9 [.ref 11, .int l1, .int l2, .int (l3 + 1), .int (l4 + 1)] [] (S sl p (up2 I 16 (Int32.toNatClampNeg s1) s0) J)) := by
  refine (r_ist (dk D90 29 rfl) ar_16).trans (ck3 fun g1 => ?_)
  refine (r_inc (L' := [.ref 11, .int l1, .int l2, .int (l3 + 1), .int l4]) (dk D90 30 rfl) rfl rfl ci1 (Nat.le_of_ble_eq_true rfl) rfl).trans ?_
  refine (r_inc (L' := [.ref 11, .int l1, .int l2, .int (l3 + 1), .int (l4 + 1)]) (dk D90 31 rfl) rfl rfl ci1 (Nat.le_of_ble_eq_true rfl) rfl).trans ?_
  refine (r_goto (L' := [.ref 11, .int l1, .int l2, .int (l3 + 1), .int (l4 + 1)]) (dk D90 32 rfl) rfl nd90_9 rfl).trans ?_
  exact rfl
set_option maxRecDepth 20000 in
theorem D91 : dOK 91 [(0, .aload_n 0, 1), (1, .iload_n 1, 1), (2, .iload_n 2, 1), (3, .invokevirtual 91, 3), (6, .istore_n 3, 1), (7, .iconst 0, 1), (8, .istore 4, 2), (10, .iconst 0, 1), (11, .istore 5, 2), (13, .iload 5, 2), (15, .iload_n 3, 1), (16, .if_icmp .ge 26, 3), (19, .aload_n 0, 1), (20, .getfield 43, 3), (23, .iload 5, 2), (25, .iaload, 1), (26, .aload_n 0, 1), (27, .getfield 65, 3), (30, .if_icmp .lt 6, 3), (33, .iinc 4 1, 3), (36, .iinc 5 1, 3), (39, .goto (-26), 3), (42, .iload 4, 2), (44, .ireturn, 1)] = true := by decide +kernel
theorem E91_0 {d sl : Nat} {p : Nat → Nat} {I : Nat → Nat → Int32} {J : Nat → Nat → Int64} (a1 : Int32) (a2 : Int32)  : den (d + 1) 91 [.ref 11, .int a1, .int a2] (S sl p I J) = evK (d + 1) 91 6 [.ref 11, .int a1, .int a2, .retAddr 0, .retAddr 0, .retAddr 0] [] (den d 90 [.ref 11, .int a1, .int a2] (S sl p I J)) := by
  refine (show den (d + 1) 91 [.ref 11, .int a1, .int a2] (S sl p I J) = ev (d + 1) 91 0 [.ref 11, .int a1, .int a2, .retAddr 0, .retAddr 0, .retAddr 0] [] (S sl p I J) from rfl).trans ?_
  refine (r_aln (dk D91 0 rfl) rfl).trans ?_
  refine (r_iln (dk D91 1 rfl) rfl).trans ?_
  refine (r_iln (dk D91 2 rfl) rfl).trans ?_
  exact r_cv (dk D91 3 rfl) ow91 c10_91 mf90 (Nat.le_of_ble_eq_true rfl) rfl rfl (Nat.le_of_ble_eq_true rfl) (Nat.le_of_ble_eq_true rfl) ob_11
theorem E91_6 {d sl : Nat} {p : Nat → Nat} {I : Nat → Nat → Int32} {J : Nat → Nat → Int64} (l1 : Int32) (l2 : Int32) (s0 : Int32)  : ev d 91 6 [.ref 11, .int l1, .int l2, .retAddr 0, .retAddr 0, .retAddr 0] [.int s0] (S sl p I J) = ev d 91 13 [.ref 11, .int l1, .int l2, .int s0, .int 0, .int 0] [] (S sl p I J) := by
  refine (r_isn (L' := [.ref 11, .int l1, .int l2, .int s0, .retAddr 0, .retAddr 0]) (dk D91 4 rfl) (Nat.le_of_ble_eq_true rfl) rfl).trans ?_
  refine (r_ic (dk D91 5 rfl) ci0).trans ?_
  refine (r_is (L' := [.ref 11, .int l1, .int l2, .int s0, .int 0, .retAddr 0]) (dk D91 6 rfl) (Nat.le_of_ble_eq_true rfl) rfl).trans ?_
  refine (r_ic (dk D91 7 rfl) ci0).trans ?_
  refine (r_is (L' := [.ref 11, .int l1, .int l2, .int s0, .int 0, .int 0]) (dk D91 8 rfl) (Nat.le_of_ble_eq_true rfl) rfl).trans ?_
  exact rfl
theorem E91_13 {d sl : Nat} {p : Nat → Nat} {I : Nat → Nat → Int32} {J : Nat → Nat → Int64} (l1 : Int32) (l2 : Int32) (l3 : Int32) (l4 : Int32) (l5 : Int32)  : ev d 91 13 [.ref 11, .int l1, .int l2, .int l3, .int l4, .int l5] [] (S sl p I J) = (if l5 < l3 then ck (ixb 60 l5) ((if (I 16 (Int32.toNatClampNeg l5)) < (I 11 13) then ev d 91 13 [.ref 11, .int l1, .int l2, .int l3, .int l4, .int (l5 + 1)] [] (S sl p I J) else ev d 91 13 [.ref 11, .int l1, .int l2, .int l3, .int (l4 + 1), .int (l5 + 1)] [] (S sl p I J))) else some (some (.int l4), (S sl p I J))) := by
  refine (r_il (dk D91 9 rfl) rfl).trans ?_
  refine (r_iln (dk D91 10 rfl) rfl).trans ?_
  refine (r_ge (dk D91 11 rfl) rfl).trans (ite2 ?_ ?_)
  · refine (r_aln (dk D91 12 rfl) rfl).trans ?_
    refine (r_getR (dk D91 13 rfl) ow91 q10_43 ob_11 rfl).trans ?_
    refine (r_il (dk D91 14 rfl) rfl).trans ?_
    refine (r_ild (dk D91 15 rfl) ar_16).trans (ck3 fun g1 => ?_)
    refine (r_aln (dk D91 16 rfl) rfl).trans ?_
    refine (r_getI (dk D91 17 rfl) ow91 q10_65 ob_11).trans ?_
    refine (r_lt (dk D91 18 rfl) rfl).trans (ite2 ?_ ?_)
    · refine (r_inc (L' := [.ref 11, .int l1, .int l2, .int l3, .int l4, .int (l5 + 1)]) (dk D91 20 rfl) rfl rfl ci1 (Nat.le_of_ble_eq_true rfl) rfl).trans ?_
      refine (r_goto (L' := [.ref 11, .int l1, .int l2, .int l3, .int l4, .int (l5 + 1)]) (dk D91 21 rfl) rfl nd91_13 rfl).trans ?_
      exact rfl
    · refine (r_inc (L' := [.ref 11, .int l1, .int l2, .int l3, .int (l4 + 1), .int l5]) (dk D91 19 rfl) rfl rfl ci1 (Nat.le_of_ble_eq_true rfl) rfl).trans ?_
      refine (r_inc (L' := [.ref 11, .int l1, .int l2, .int l3, .int (l4 + 1), .int (l5 + 1)]) (dk D91 20 rfl) rfl rfl ci1 (Nat.le_of_ble_eq_true rfl) rfl).trans ?_
      refine (r_goto (L' := [.ref 11, .int l1, .int l2, .int l3, .int (l4 + 1), .int (l5 + 1)]) (dk D91 21 rfl) rfl nd91_13 rfl).trans ?_
      exact rfl
  · refine (r_il (dk D91 22 rfl) rfl).trans ?_
    exact r_ret (dk D91 23 rfl) rt91
set_option maxRecDepth 20000 in
theorem D92 : dOK 92 [(0, .aload_n 0, 1), (1, .getfield 55, 3), (4, .iload_n 1, 1), (5, .iaload, 1), (6, .iconst (-1), 1), (7, .if_icmp .ne 15, 3), (10, .aload_n 0, 1), (11, .getfield 55, 3), (14, .iload_n 1, 1), (15, .aload_n 0, 1), (16, .iload_n 1, 1), (17, .iconst (-1), 1), (18, .invokevirtual 94, 3), (21, .iastore, 1), (22, .aload_n 0, 1), (23, .getfield 55, 3), (26, .iload_n 1, 1), (27, .iaload, 1), (28, .ireturn, 1)] = true := by decide +kernel
theorem E92_0 {d sl : Nat} {p : Nat → Nat} {I : Nat → Nat → Int32} {J : Nat → Nat → Int64} (a1 : Int32)  : den (d + 1) 92 [.ref 11, .int a1] (S sl p I J) = ck (ixb 46 a1) ((if (I 20 (Int32.toNatClampNeg a1)) = (-1) then evK (d + 1) 92 21 [.ref 11, .int a1] [.int a1, .ref 20] (den d 91 [.ref 11, .int a1, .int (-1)] (S sl p I J)) else ck (ixb 46 a1) (some (some (.int (I 20 (Int32.toNatClampNeg a1))), (S sl p I J))))) := by
  refine (show den (d + 1) 92 [.ref 11, .int a1] (S sl p I J) = ev (d + 1) 92 0 [.ref 11, .int a1] [] (S sl p I J) from rfl).trans ?_
  refine (r_aln (dk D92 0 rfl) rfl).trans ?_
  refine (r_getR (dk D92 1 rfl) ow92 q10_55 ob_11 rfl).trans ?_
  refine (r_iln (dk D92 2 rfl) rfl).trans ?_
  refine (r_ild (dk D92 3 rfl) ar_20).trans (ck3 fun g1 => ?_)
  refine (r_ic (dk D92 4 rfl) cim1).trans ?_
  refine (r_ne (dk D92 5 rfl) rfl).trans (ite2 ?_ ?_)
  · refine (r_aln (dk D92 6 rfl) rfl).trans ?_
    refine (r_getR (dk D92 7 rfl) ow92 q10_55 ob_11 rfl).trans ?_
    refine (r_iln (dk D92 8 rfl) rfl).trans ?_
    refine (r_aln (dk D92 9 rfl) rfl).trans ?_
    refine (r_iln (dk D92 10 rfl) rfl).trans ?_
    refine (r_ic (dk D92 11 rfl) cim1).trans ?_
    exact r_cv (dk D92 12 rfl) ow92 c10_94 mf91 (Nat.le_of_ble_eq_true rfl) rfl rfl (Nat.le_of_ble_eq_true rfl) (Nat.le_of_ble_eq_true rfl) ob_11
  · refine (r_aln (dk D92 14 rfl) rfl).trans ?_
    refine (r_getR (dk D92 15 rfl) ow92 q10_55 ob_11 rfl).trans ?_
    refine (r_iln (dk D92 16 rfl) rfl).trans ?_
    refine (r_ild (dk D92 17 rfl) ar_20).trans (ck3 fun g2 => ?_)
    exact r_ret (dk D92 18 rfl) rt92
theorem E92_21 {d sl : Nat} {p : Nat → Nat} {I : Nat → Nat → Int32} {J : Nat → Nat → Int64} (l1 : Int32) (s0 : Int32) (s1 : Int32)  : ev d 92 21 [.ref 11, .int l1] [.int s0, .int s1, .ref 20] (S sl p I J) = ck (ixb 46 s1) (ck (ixb 46 l1) (some (some (.int ((up2 I 20 (Int32.toNatClampNeg s1) s0) 20 (Int32.toNatClampNeg l1))), (S sl p (up2 I 20 (Int32.toNatClampNeg s1) s0) J)))) := by
  refine (r_ist (dk D92 13 rfl) ar_20).trans (ck3 fun g1 => ?_)
  refine (r_aln (dk D92 14 rfl) rfl).trans ?_
  refine (r_getR (dk D92 15 rfl) ow92 q10_55 ob_11 rfl).trans ?_
  refine (r_iln (dk D92 16 rfl) rfl).trans ?_
  refine (r_ild (dk D92 17 rfl) ar_20).trans (ck3 fun g2 => ?_)
  exact r_ret (dk D92 18 rfl) rt92
set_option maxRecDepth 20000 in
theorem D93 : dOK 93 [(0, .iconst 0, 1), (1, .istore_n 3, 1), (2, .iload_n 3, 1), (3, .aload_n 0, 1), (4, .getfield 9, 3), (7, .getfield 77, 3), (10, .if_icmp .ge 31, 3), (13, .aload_n 0, 1), (14, .getfield 52, 3), (17, .iload_n 3, 1), (18, .aload_n 0, 1), (19, .getfield 9, 3), (22, .iload_n 1, 1), (23, .iload_n 3, 1), (24, .invokevirtual 80, 3), (27, .iastore, 1), (28, .aload_n 0, 1), (29, .getfield 40, 3), (32, .iload_n 3, 1), (33, .iconst (-1), 1), (34, .iastore, 1), (35, .iinc 3 1, 3), (38, .goto (-36), 3), (41, .aload_n 0, 1), (42, .getfield 52, 3), (45, .iload_n 1, 1), (46, .iconst 0, 1), (47, .iastore, 1), (48, .iconst 0, 1), (49, .istore_n 3, 1), (50, .iload_n 3, 1), (51, .aload_n 0, 1), (52, .getfield 9, 3), (55, .getfield 77, 3), (58, .if_icmp .ge 93, 3), (61, .aload_n 0, 1), (62, .getfield 40, 3), (65, .iload_n 2, 1), (66, .iaload, 1), (67, .iconst (-1), 1), (68, .if_icmp .ne 83, 3), (71, .aload_n 0, 1), (72, .iload_n 2, 1), (73, .invokevirtual 97, 3), (76, .istore 4, 2), (78, .aload_n 0, 1), (79, .getfield 40, 3), (82, .iload 4, 2), (84, .iconst 0, 1), (85, .iastore, 1), (86, .iconst 0, 1), (87, .istore 5, 2), (89, .iload 5, 2), (91, .aload_n 0, 1), (92, .getfield 9, 3), (95, .getfield 77, 3), (98, .if_icmp .ge 47, 3), (101, .aload_n 0, 1), (102, .getfield 52, 3), (105, .iload 5, 2), (107, .aload_n 0, 1), (108, .getfield 52, 3), (111, .iload 5, 2), (113, .iaload, 1), (114, .aload_n 0, 1), (115, .getfield 52, 3), (118, .iload 4, 2), (120, .iaload, 1), (121, .aload_n 0, 1), (122, .getfield 9, 3), (125, .iload 4, 2), (127, .iload 5, 2), (129, .invokevirtual 80, 3), (132, .invokestatic 101, 3), (135, .invokestatic 106, 3), (138, .iastore, 1), (139, .iinc 5 1, 3), (142, .goto (-53), 3), (145, .iinc 3 1, 3), (148, .goto (-98), 3), (151, .aload_n 0, 1), (152, .getfield 52, 3), (155, .iload_n 2, 1), (156, .iaload, 1), (157, .ireturn, 1)] = true := by decide +kernel
theorem E93_0 {d sl : Nat} {p : Nat → Nat} {I : Nat → Nat → Int32} {J : Nat → Nat → Int64} (a1 : Int32) (a2 : Int32)  : den d 93 [.ref 11, .int a1, .int a2] (S sl p I J) = ev d 93 2 [.ref 11, .int a1, .int a2, .int 0, .retAddr 0, .retAddr 0] [] (S sl p I J) := by
  refine (show den d 93 [.ref 11, .int a1, .int a2] (S sl p I J) = ev d 93 0 [.ref 11, .int a1, .int a2, .retAddr 0, .retAddr 0, .retAddr 0] [] (S sl p I J) from rfl).trans ?_
  refine (r_ic (dk D93 0 rfl) ci0).trans ?_
  refine (r_isn (L' := [.ref 11, .int a1, .int a2, .int 0, .retAddr 0, .retAddr 0]) (dk D93 1 rfl) (Nat.le_of_ble_eq_true rfl) rfl).trans ?_
  exact rfl
theorem E93_2 {d sl : Nat} {p : Nat → Nat} {I : Nat → Nat → Int32} {J : Nat → Nat → Int64} (l1 : Int32) (l2 : Int32) (l3 : Int32)  : ev (d + 1) 93 2 [.ref 11, .int l1, .int l2, .int l3, .retAddr 0, .retAddr 0] [] (S sl p I J) = (if l3 < (I 4 8) then evK (d + 1) 93 27 [.ref 11, .int l1, .int l2, .int l3, .retAddr 0, .retAddr 0] [.int l3, .ref 19] (den d 66 [.ref 4, .int l1, .int l3] (S sl p I J)) else ck (ixb 60 l1) (ev (d + 1) 93 50 [.ref 11, .int l1, .int l2, .int 0, .retAddr 0, .retAddr 0] [] (S sl p (up2 I 19 (Int32.toNatClampNeg l1) 0) J))) := by
  refine (r_iln (dk D93 2 rfl) rfl).trans ?_
  refine (r_aln (dk D93 3 rfl) rfl).trans ?_
  refine (r_getR (dk D93 4 rfl) ow93 q10_9 ob_11 rfl).trans ?_
  refine (r_getI (dk D93 5 rfl) ow93 q10_77 ob_4).trans ?_
  refine (r_ge (dk D93 6 rfl) rfl).trans (ite2 ?_ ?_)
  · refine (r_aln (dk D93 7 rfl) rfl).trans ?_
    refine (r_getR (dk D93 8 rfl) ow93 q10_52 ob_11 rfl).trans ?_
    refine (r_iln (dk D93 9 rfl) rfl).trans ?_
    refine (r_aln (dk D93 10 rfl) rfl).trans ?_
    refine (r_getR (dk D93 11 rfl) ow93 q10_9 ob_11 rfl).trans ?_
    refine (r_iln (dk D93 12 rfl) rfl).trans ?_
    refine (r_iln (dk D93 13 rfl) rfl).trans ?_
    exact r_cv (dk D93 14 rfl) ow93 c10_80 mf66 (Nat.le_of_ble_eq_true rfl) rfl rfl (Nat.le_of_ble_eq_true rfl) (Nat.le_of_ble_eq_true rfl) ob_4
  · refine (r_aln (dk D93 23 rfl) rfl).trans ?_
    refine (r_getR (dk D93 24 rfl) ow93 q10_52 ob_11 rfl).trans ?_
    refine (r_iln (dk D93 25 rfl) rfl).trans ?_
    refine (r_ic (dk D93 26 rfl) ci0).trans ?_
    refine (r_ist (dk D93 27 rfl) ar_19).trans (ck3 fun g1 => ?_)
    refine (r_ic (dk D93 28 rfl) ci0).trans ?_
    refine (r_isn (L' := [.ref 11, .int l1, .int l2, .int 0, .retAddr 0, .retAddr 0]) (dk D93 29 rfl) (Nat.le_of_ble_eq_true rfl) rfl).trans ?_
    exact rfl
theorem E93_27 {d sl : Nat} {p : Nat → Nat} {I : Nat → Nat → Int32} {J : Nat → Nat → Int64} (l1 : Int32) (l2 : Int32) (l3 : Int32) (s0 : Int32) (s1 : Int32)  : ev d 93 27 [.ref 11, .int l1, .int l2, .int l3, .retAddr 0, .retAddr 0] [.int s0, .int s1, .ref 19] (S sl p I J) = ck (ixb 60 s1) (ck (ixb 60 l3) (ev d 93 2 [.ref 11, .int l1, .int l2, .int (l3 + 1), .retAddr 0, .retAddr 0] [] (S sl p (up2 (up2 I 19 (Int32.toNatClampNeg s1) s0) 15 (Int32.toNatClampNeg l3) (-1)) J))) := by
  refine (r_ist (dk D93 15 rfl) ar_19).trans (ck3 fun g1 => ?_)
  refine (r_aln (dk D93 16 rfl) rfl).trans ?_
  refine (r_getR (dk D93 17 rfl) ow93 q10_40 ob_11 rfl).trans ?_
  refine (r_iln (dk D93 18 rfl) rfl).trans ?_
  refine (r_ic (dk D93 19 rfl) cim1).trans ?_
  refine (r_ist (dk D93 20 rfl) ar_15).trans (ck3 fun g2 => ?_)
  refine (r_inc (L' := [.ref 11, .int l1, .int l2, .int (l3 + 1), .retAddr 0, .retAddr 0]) (dk D93 21 rfl) rfl rfl ci1 (Nat.le_of_ble_eq_true rfl) rfl).trans ?_
  refine (r_goto (L' := [.ref 11, .int l1, .int l2, .int (l3 + 1), .retAddr 0, .retAddr 0]) (dk D93 22 rfl) rfl nd93_2 rfl).trans ?_
  exact rfl
theorem E93_50 {d sl : Nat} {p : Nat → Nat} {I : Nat → Nat → Int32} {J : Nat → Nat → Int64} (l1 : Int32) (l2 : Int32) (l3 : Int32)  : ev (d + 1) 93 50 [.ref 11, .int l1, .int l2, .int l3, .retAddr 0, .retAddr 0] [] (S sl p I J) = (if l3 < (I 4 8) then ck (ixb 60 l2) ((if (I 15 (Int32.toNatClampNeg l2)) = (-1) then evK (d + 1) 93 76 [.ref 11, .int l1, .int l2, .int l3, .retAddr 0, .retAddr 0] [] (den d 94 [.ref 11, .int l2] (S sl p I J)) else ck (ixb 60 l2) (some (some (.int (I 19 (Int32.toNatClampNeg l2))), (S sl p I J))))) else ck (ixb 60 l2) (some (some (.int (I 19 (Int32.toNatClampNeg l2))), (S sl p I J)))) := by
  refine (r_iln (dk D93 30 rfl) rfl).trans ?_
  refine (r_aln (dk D93 31 rfl) rfl).trans ?_
  refine (r_getR (dk D93 32 rfl) ow93 q10_9 ob_11 rfl).trans ?_
  refine (r_getI (dk D93 33 rfl) ow93 q10_77 ob_4).trans ?_
  refine (r_ge (dk D93 34 rfl) rfl).trans (ite2 ?_ ?_)
  · refine (r_aln (dk D93 35 rfl) rfl).trans ?_
    refine (r_getR (dk D93 36 rfl) ow93 q10_40 ob_11 rfl).trans ?_
    refine (r_iln (dk D93 37 rfl) rfl).trans ?_
    refine (r_ild (dk D93 38 rfl) ar_15).trans (ck3 fun g1 => ?_)
    refine (r_ic (dk D93 39 rfl) cim1).trans ?_
    refine (r_ne (dk D93 40 rfl) rfl).trans (ite2 ?_ ?_)
    · refine (r_aln (dk D93 41 rfl) rfl).trans ?_
      refine (r_iln (dk D93 42 rfl) rfl).trans ?_
      exact r_cv (dk D93 43 rfl) ow93 c10_97 mf94 (Nat.le_of_ble_eq_true rfl) rfl rfl (Nat.le_of_ble_eq_true rfl) (Nat.le_of_ble_eq_true rfl) ob_11
    · refine (r_aln (dk D93 80 rfl) rfl).trans ?_
      refine (r_getR (dk D93 81 rfl) ow93 q10_52 ob_11 rfl).trans ?_
      refine (r_iln (dk D93 82 rfl) rfl).trans ?_
      refine (r_ild (dk D93 83 rfl) ar_19).trans (ck3 fun g2 => ?_)
      exact r_ret (dk D93 84 rfl) rt93
  · refine (r_aln (dk D93 80 rfl) rfl).trans ?_
    refine (r_getR (dk D93 81 rfl) ow93 q10_52 ob_11 rfl).trans ?_
    refine (r_iln (dk D93 82 rfl) rfl).trans ?_
    refine (r_ild (dk D93 83 rfl) ar_19).trans (ck3 fun g3 => ?_)
    exact r_ret (dk D93 84 rfl) rt93
theorem E93_76 {d sl : Nat} {p : Nat → Nat} {I : Nat → Nat → Int32} {J : Nat → Nat → Int64} (l1 : Int32) (l2 : Int32) (l3 : Int32) (s0 : Int32)  : ev d 93 76 [.ref 11, .int l1, .int l2, .int l3, .retAddr 0, .retAddr 0] [.int s0] (S sl p I J) = ck (ixb 60 s0) (ev d 93 89 [.ref 11, .int l1, .int l2, .int l3, .int s0, .int 0] [] (S sl p (up2 I 15 (Int32.toNatClampNeg s0) 0) J)) := by
  refine (r_is (L' := [.ref 11, .int l1, .int l2, .int l3, .int s0, .retAddr 0]) (dk D93 44 rfl) (Nat.le_of_ble_eq_true rfl) rfl).trans ?_
  refine (r_aln (dk D93 45 rfl) rfl).trans ?_
  refine (r_getR (dk D93 46 rfl) ow93 q10_40 ob_11 rfl).trans ?_
  refine (r_il (dk D93 47 rfl) rfl).trans ?_
  refine (r_ic (dk D93 48 rfl) ci0).trans ?_
  refine (r_ist (dk D93 49 rfl) ar_15).trans (ck3 fun g1 => ?_)
  refine (r_ic (dk D93 50 rfl) ci0).trans ?_
  refine (r_is (L' := [.ref 11, .int l1, .int l2, .int l3, .int s0, .int 0]) (dk D93 51 rfl) (Nat.le_of_ble_eq_true rfl) rfl).trans ?_
  exact rfl
theorem E93_89 {d sl : Nat} {p : Nat → Nat} {I : Nat → Nat → Int32} {J : Nat → Nat → Int64} (l1 : Int32) (l2 : Int32) (l3 : Int32) (l4 : Int32) (l5 : Int32)  : ev (d + 1) 93 89 [.ref 11, .int l1, .int l2, .int l3, .int l4, .int l5] [] (S sl p I J) = (if l5 < (I 4 8) then ck (ixb 60 l5) (ck (ixb 60 l4) (evK (d + 1) 93 132 [.ref 11, .int l1, .int l2, .int l3, .int l4, .int l5] [.int (I 19 (Int32.toNatClampNeg l4)), .int (I 19 (Int32.toNatClampNeg l5)), .int l5, .ref 19] (den d 66 [.ref 4, .int l4, .int l5] (S sl p I J)))) else ev (d + 1) 93 50 [.ref 11, .int l1, .int l2, .int (l3 + 1), .retAddr 0, .retAddr 0] [] (S sl p I J)) := by
  refine (r_il (dk D93 52 rfl) rfl).trans ?_
  refine (r_aln (dk D93 53 rfl) rfl).trans ?_
  refine (r_getR (dk D93 54 rfl) ow93 q10_9 ob_11 rfl).trans ?_
  refine (r_getI (dk D93 55 rfl) ow93 q10_77 ob_4).trans ?_
  refine (r_ge (dk D93 56 rfl) rfl).trans (ite2 ?_ ?_)
  · refine (r_aln (dk D93 57 rfl) rfl).trans ?_
    refine (r_getR (dk D93 58 rfl) ow93 q10_52 ob_11 rfl).trans ?_
    refine (r_il (dk D93 59 rfl) rfl).trans ?_
    refine (r_aln (dk D93 60 rfl) rfl).trans ?_
    refine (r_getR (dk D93 61 rfl) ow93 q10_52 ob_11 rfl).trans ?_
    refine (r_il (dk D93 62 rfl) rfl).trans ?_
    refine (r_ild (dk D93 63 rfl) ar_19).trans (ck3 fun g1 => ?_)
    refine (r_aln (dk D93 64 rfl) rfl).trans ?_
    refine (r_getR (dk D93 65 rfl) ow93 q10_52 ob_11 rfl).trans ?_
    refine (r_il (dk D93 66 rfl) rfl).trans ?_
    refine (r_ild (dk D93 67 rfl) ar_19).trans (ck3 fun g2 => ?_)
    refine (r_aln (dk D93 68 rfl) rfl).trans ?_
    refine (r_getR (dk D93 69 rfl) ow93 q10_9 ob_11 rfl).trans ?_
    refine (r_il (dk D93 70 rfl) rfl).trans ?_
    refine (r_il (dk D93 71 rfl) rfl).trans ?_
    exact r_cv (dk D93 72 rfl) ow93 c10_80 mf66 (Nat.le_of_ble_eq_true rfl) rfl rfl (Nat.le_of_ble_eq_true rfl) (Nat.le_of_ble_eq_true rfl) ob_4
  · refine (r_inc (L' := [.ref 11, .int l1, .int l2, .int (l3 + 1), .int l4, .int l5]) (dk D93 78 rfl) rfl rfl ci1 (Nat.le_of_ble_eq_true rfl) rfl).trans ?_
    refine (r_goto (L' := [.ref 11, .int l1, .int l2, .int (l3 + 1), .retAddr 0, .retAddr 0]) (dk D93 79 rfl) rfl nd93_50 rfl).trans ?_
    exact rfl
theorem E93_132 {d sl : Nat} {p : Nat → Nat} {I : Nat → Nat → Int32} {J : Nat → Nat → Int64} (l1 : Int32) (l2 : Int32) (l3 : Int32) (l4 : Int32) (l5 : Int32) (s0 : Int32) (s1 : Int32) (s2 : Int32) (s3 : Int32)  : ev (d + 1) 93 132 [.ref 11, .int l1, .int l2, .int l3, .int l4, .int l5] [.int s0, .int s1, .int s2, .int s3, .ref 19] (S sl p I J) = ck (ixb 60 s3) (ev (d + 1) 93 89 [.ref 11, .int l1, .int l2, .int l3, .int l4, .int (l5 + 1)] [] (S sl p (up2 I 19 (Int32.toNatClampNeg s3) (if (if s1 < s0 then s0 else s1) < s2 then (if s1 < s0 then s0 else s1) else s2)) J)) := by
  refine (r_prm (st' := [.int (if s1 < s0 then s0 else s1), .int s2, .int s3, .ref 19]) (dk D93 73 rfl) ow93 p10_101 (Nat.le_of_ble_eq_true rfl) rfl).trans ?_
  refine (r_prm (st' := [.int (if (if s1 < s0 then s0 else s1) < s2 then (if s1 < s0 then s0 else s1) else s2), .int s3, .ref 19]) (dk D93 74 rfl) ow93 p10_106 (Nat.le_of_ble_eq_true rfl) rfl).trans ?_
  refine (r_ist (dk D93 75 rfl) ar_19).trans (ck3 fun g1 => ?_)
  refine (r_inc (L' := [.ref 11, .int l1, .int l2, .int l3, .int l4, .int (l5 + 1)]) (dk D93 76 rfl) rfl rfl ci1 (Nat.le_of_ble_eq_true rfl) rfl).trans ?_
  refine (r_goto (L' := [.ref 11, .int l1, .int l2, .int l3, .int l4, .int (l5 + 1)]) (dk D93 77 rfl) rfl nd93_89 rfl).trans ?_
  exact rfl
set_option maxRecDepth 20000 in
theorem D94 : dOK 94 [(0, .iload_n 1, 1), (1, .istore_n 2, 1), (2, .iconst 0, 1), (3, .istore_n 3, 1), (4, .iload_n 3, 1), (5, .aload_n 0, 1), (6, .getfield 9, 3), (9, .getfield 77, 3), (12, .if_icmp .ge 36, 3), (15, .aload_n 0, 1), (16, .getfield 40, 3), (19, .iload_n 3, 1), (20, .iaload, 1), (21, .iconst (-1), 1), (22, .if_icmp .ne 20, 3), (25, .aload_n 0, 1), (26, .getfield 52, 3), (29, .iload_n 3, 1), (30, .iaload, 1), (31, .aload_n 0, 1), (32, .getfield 52, 3), (35, .iload_n 2, 1), (36, .iaload, 1), (37, .if_icmp .ge 5, 3), (40, .iload_n 3, 1), (41, .istore_n 2, 1), (42, .iinc 3 1, 3), (45, .goto (-41), 3), (48, .iload_n 2, 1), (49, .ireturn, 1)] = true := by decide +kernel
theorem E94_0 {d sl : Nat} {p : Nat → Nat} {I : Nat → Nat → Int32} {J : Nat → Nat → Int64} (a1 : Int32)  : den d 94 [.ref 11, .int a1] (S sl p I J) = ev d 94 4 [.ref 11, .int a1, .int a1, .int 0] [] (S sl p I J) := by
  refine (show den d 94 [.ref 11, .int a1] (S sl p I J) = ev d 94 0 [.ref 11, .int a1, .retAddr 0, .retAddr 0] [] (S sl p I J) from rfl).trans ?_
  refine (r_iln (dk D94 0 rfl) rfl).trans ?_
  refine (r_isn (L' := [.ref 11, .int a1, .int a1, .retAddr 0]) (dk D94 1 rfl) (Nat.le_of_ble_eq_true rfl) rfl).trans ?_
  refine (r_ic (dk D94 2 rfl) ci0).trans ?_
  refine (r_isn (L' := [.ref 11, .int a1, .int a1, .int 0]) (dk D94 3 rfl) (Nat.le_of_ble_eq_true rfl) rfl).trans ?_
  exact rfl
theorem E94_4 {d sl : Nat} {p : Nat → Nat} {I : Nat → Nat → Int32} {J : Nat → Nat → Int64} (l1 : Int32) (l2 : Int32) (l3 : Int32)  : ev d 94 4 [.ref 11, .int l1, .int l2, .int l3] [] (S sl p I J) = (if l3 < (I 4 8) then ck (ixb 60 l3) ((if (I 15 (Int32.toNatClampNeg l3)) = (-1) then ck (ixb 60 l3) (ck (ixb 60 l2) ((if (I 19 (Int32.toNatClampNeg l3)) < (I 19 (Int32.toNatClampNeg l2)) then ev d 94 4 [.ref 11, .int l1, .int l3, .int (l3 + 1)] [] (S sl p I J) else ev d 94 4 [.ref 11, .int l1, .int l2, .int (l3 + 1)] [] (S sl p I J)))) else ev d 94 4 [.ref 11, .int l1, .int l2, .int (l3 + 1)] [] (S sl p I J))) else some (some (.int l2), (S sl p I J))) := by
  refine (r_iln (dk D94 4 rfl) rfl).trans ?_
  refine (r_aln (dk D94 5 rfl) rfl).trans ?_
  refine (r_getR (dk D94 6 rfl) ow94 q10_9 ob_11 rfl).trans ?_
  refine (r_getI (dk D94 7 rfl) ow94 q10_77 ob_4).trans ?_
  refine (r_ge (dk D94 8 rfl) rfl).trans (ite2 ?_ ?_)
  · refine (r_aln (dk D94 9 rfl) rfl).trans ?_
    refine (r_getR (dk D94 10 rfl) ow94 q10_40 ob_11 rfl).trans ?_
    refine (r_iln (dk D94 11 rfl) rfl).trans ?_
    refine (r_ild (dk D94 12 rfl) ar_15).trans (ck3 fun g1 => ?_)
    refine (r_ic (dk D94 13 rfl) cim1).trans ?_
    refine (r_ne (dk D94 14 rfl) rfl).trans (ite2 ?_ ?_)
    · refine (r_aln (dk D94 15 rfl) rfl).trans ?_
      refine (r_getR (dk D94 16 rfl) ow94 q10_52 ob_11 rfl).trans ?_
      refine (r_iln (dk D94 17 rfl) rfl).trans ?_
      refine (r_ild (dk D94 18 rfl) ar_19).trans (ck3 fun g2 => ?_)
      refine (r_aln (dk D94 19 rfl) rfl).trans ?_
      refine (r_getR (dk D94 20 rfl) ow94 q10_52 ob_11 rfl).trans ?_
      refine (r_iln (dk D94 21 rfl) rfl).trans ?_
      refine (r_ild (dk D94 22 rfl) ar_19).trans (ck3 fun g3 => ?_)
      refine (r_ge (dk D94 23 rfl) rfl).trans (ite2 ?_ ?_)
      · refine (r_iln (dk D94 24 rfl) rfl).trans ?_
        refine (r_isn (L' := [.ref 11, .int l1, .int l3, .int l3]) (dk D94 25 rfl) (Nat.le_of_ble_eq_true rfl) rfl).trans ?_
        refine (r_inc (L' := [.ref 11, .int l1, .int l3, .int (l3 + 1)]) (dk D94 26 rfl) rfl rfl ci1 (Nat.le_of_ble_eq_true rfl) rfl).trans ?_
        refine (r_goto (L' := [.ref 11, .int l1, .int l3, .int (l3 + 1)]) (dk D94 27 rfl) rfl nd94_4 rfl).trans ?_
        exact rfl
      · refine (r_inc (L' := [.ref 11, .int l1, .int l2, .int (l3 + 1)]) (dk D94 26 rfl) rfl rfl ci1 (Nat.le_of_ble_eq_true rfl) rfl).trans ?_
        refine (r_goto (L' := [.ref 11, .int l1, .int l2, .int (l3 + 1)]) (dk D94 27 rfl) rfl nd94_4 rfl).trans ?_
        exact rfl
    · refine (r_inc (L' := [.ref 11, .int l1, .int l2, .int (l3 + 1)]) (dk D94 26 rfl) rfl rfl ci1 (Nat.le_of_ble_eq_true rfl) rfl).trans ?_
      refine (r_goto (L' := [.ref 11, .int l1, .int l2, .int (l3 + 1)]) (dk D94 27 rfl) rfl nd94_4 rfl).trans ?_
      exact rfl
  · refine (r_iln (dk D94 28 rfl) rfl).trans ?_
    exact r_ret (dk D94 29 rfl) rt94
set_option maxRecDepth 20000 in
theorem D95 : dOK 95 [(0, .aload_n 0, 1), (1, .getfield 71, 3), (4, .aload_n 0, 1), (5, .getfield 9, 3), (8, .getfield 74, 3), (11, .if_icmp .ne 4, 3), (14, .return_, 1), (15, .aload_n 0, 1), (16, .aload_n 0, 1), (17, .getfield 9, 3), (20, .getfield 74, 3), (23, .putfield 71, 3), (26, .aload_n 0, 1), (27, .iconst 0, 1), (28, .putfield 109, 3), (31, .aload_n 0, 1), (32, .iconst (-1), 1), (33, .putfield 112, 3), (36, .aload_n 0, 1), (37, .getfield 9, 3), (40, .getfield 77, 3), (43, .iconst 1, 1), (44, .isub, 1), (45, .istore_n 1, 1), (46, .iload_n 1, 1), (47, .ifCond .lt 32, 3), (50, .aload_n 0, 1), (51, .iload_n 1, 1), (52, .invokevirtual 115, 3), (55, .ifCond .eq 18, 3), (58, .aload_n 0, 1), (59, .dup, 1), (60, .getfield 109, 3), (63, .iconst 1, 1), (64, .iadd, 1), (65, .putfield 109, 3), (68, .aload_n 0, 1), (69, .iload_n 1, 1), (70, .putfield 112, 3), (73, .iinc 1 (-1), 3), (76, .goto (-30), 3), (79, .return_, 1)] = true := by decide +kernel
theorem E95_0 {d sl : Nat} {p : Nat → Nat} {I : Nat → Nat → Int32} {J : Nat → Nat → Int64}   : den d 95 [.ref 11] (S sl p I J) = (if (I 11 16) = (I 4 10) then some (none, (S sl p I J)) else ev d 95 46 [.ref 11, .int (((up2 (up2 (up2 I 11 16 (I 4 10)) 11 17 0) 11 18 (-1)) 4 8) - 1)] [] (S sl p (up2 (up2 (up2 I 11 16 (I 4 10)) 11 17 0) 11 18 (-1)) J)) := by
  refine (show den d 95 [.ref 11] (S sl p I J) = ev d 95 0 [.ref 11, .retAddr 0] [] (S sl p I J) from rfl).trans ?_
  refine (r_aln (dk D95 0 rfl) rfl).trans ?_
  refine (r_getI (dk D95 1 rfl) ow95 q10_71 ob_11).trans ?_
  refine (r_aln (dk D95 2 rfl) rfl).trans ?_
  refine (r_getR (dk D95 3 rfl) ow95 q10_9 ob_11 rfl).trans ?_
  refine (r_getI (dk D95 4 rfl) ow95 q10_74 ob_4).trans ?_
  refine (r_ne (dk D95 5 rfl) rfl).trans (ite2 ?_ ?_)
  · exact r_rev (dk D95 6 rfl) rt95
  · refine (r_aln (dk D95 7 rfl) rfl).trans ?_
    refine (r_aln (dk D95 8 rfl) rfl).trans ?_
    refine (r_getR (dk D95 9 rfl) ow95 q10_9 ob_11 rfl).trans ?_
    refine (r_getI (dk D95 10 rfl) ow95 q10_74 ob_4).trans ?_
    refine (r_putI (dk D95 11 rfl) ow95 w10_71 ob_11).trans ?_
    refine (r_aln (dk D95 12 rfl) rfl).trans ?_
    refine (r_ic (dk D95 13 rfl) ci0).trans ?_
    refine (r_putI (dk D95 14 rfl) ow95 w10_109 ob_11).trans ?_
    refine (r_aln (dk D95 15 rfl) rfl).trans ?_
    refine (r_ic (dk D95 16 rfl) cim1).trans ?_
    refine (r_putI (dk D95 17 rfl) ow95 w10_112 ob_11).trans ?_
    refine (r_aln (dk D95 18 rfl) rfl).trans ?_
    refine (r_getR (dk D95 19 rfl) ow95 q10_9 ob_11 rfl).trans ?_
    refine (r_getI (dk D95 20 rfl) ow95 q10_77 ob_4).trans ?_
    refine (r_ic (dk D95 21 rfl) ci1).trans ?_
    refine (r_isub (dk D95 22 rfl)).trans ?_
    refine (r_isn (L' := [.ref 11, .int (((up2 (up2 (up2 I 11 16 (I 4 10)) 11 17 0) 11 18 (-1)) 4 8) - 1)]) (dk D95 23 rfl) (Nat.le_of_ble_eq_true rfl) rfl).trans ?_
    exact rfl
theorem E95_46 {d sl : Nat} {p : Nat → Nat} {I : Nat → Nat → Int32} {J : Nat → Nat → Int64} (l1 : Int32)  : ev (d + 1) 95 46 [.ref 11, .int l1] [] (S sl p I J) = (if l1 < 0 then some (none, (S sl p I J)) else evK (d + 1) 95 55 [.ref 11, .int l1] [] (den d 96 [.ref 11, .int l1] (S sl p I J))) := by
  refine (r_iln (dk D95 24 rfl) rfl).trans ?_
  refine (r_lt0 (dk D95 25 rfl) rfl).trans (ite2 ?_ ?_)
  · exact r_rev (dk D95 41 rfl) rt95
  · refine (r_aln (dk D95 26 rfl) rfl).trans ?_
    refine (r_iln (dk D95 27 rfl) rfl).trans ?_
    exact r_cv (dk D95 28 rfl) ow95 c10_115 mf96 (Nat.le_of_ble_eq_true rfl) rfl rfl (Nat.le_of_ble_eq_true rfl) (Nat.le_of_ble_eq_true rfl) ob_11
theorem E95_55 {d sl : Nat} {p : Nat → Nat} {I : Nat → Nat → Int32} {J : Nat → Nat → Int64} (l1 : Int32) (s0 : Int32)  : ev d 95 55 [.ref 11, .int l1] [.int s0] (S sl p I J) = (if s0 = 0 then ev d 95 46 [.ref 11, .int (l1 + (-1))] [] (S sl p I J) else ev d 95 46 [.ref 11, .int (l1 + (-1))] [] (S sl p (up2 (up2 I 11 17 ((I 11 17) + 1)) 11 18 l1) J)) := by
  refine (r_eq0 (dk D95 29 rfl) rfl).trans (ite2 ?_ ?_)
  · refine (r_inc (L' := [.ref 11, .int (l1 + (-1))]) (dk D95 39 rfl) rfl rfl cim1 (Nat.le_of_ble_eq_true rfl) rfl).trans ?_
    refine (r_goto (L' := [.ref 11, .int (l1 + (-1))]) (dk D95 40 rfl) rfl nd95_46 rfl).trans ?_
    exact rfl
  · refine (r_aln (dk D95 30 rfl) rfl).trans ?_
    refine (r_dup (dk D95 31 rfl) rfl).trans ?_
    refine (r_getI (dk D95 32 rfl) ow95 q10_109 ob_11).trans ?_
    refine (r_ic (dk D95 33 rfl) ci1).trans ?_
    refine (r_iadd (dk D95 34 rfl)).trans ?_
    refine (r_putI (dk D95 35 rfl) ow95 w10_109 ob_11).trans ?_
    refine (r_aln (dk D95 36 rfl) rfl).trans ?_
    refine (r_iln (dk D95 37 rfl) rfl).trans ?_
    refine (r_putI (dk D95 38 rfl) ow95 w10_112 ob_11).trans ?_
    refine (r_inc (L' := [.ref 11, .int (l1 + (-1))]) (dk D95 39 rfl) rfl rfl cim1 (Nat.le_of_ble_eq_true rfl) rfl).trans ?_
    refine (r_goto (L' := [.ref 11, .int (l1 + (-1))]) (dk D95 40 rfl) rfl nd95_46 rfl).trans ?_
    exact rfl
set_option maxRecDepth 20000 in
theorem D96 : dOK 96 [(0, .aload_n 0, 1), (1, .getfield 19, 3), (4, .iload_n 1, 1), (5, .iaload, 1), (6, .istore_n 2, 1), (7, .iload_n 2, 1), (8, .ifCond .ge 5, 3), (11, .iconst 0, 1), (12, .ireturn, 1), (13, .aload_n 0, 1), (14, .iload_n 2, 1), (15, .iconst 0, 1), (16, .invokevirtual 119, 3), (19, .istore_n 3, 1), (20, .iload_n 3, 1), (21, .iload_n 1, 1), (22, .if_icmp .ne 10, 3), (25, .aload_n 0, 1), (26, .iload_n 2, 1), (27, .iconst 1, 1), (28, .invokevirtual 119, 3), (31, .istore_n 3, 1), (32, .iload_n 3, 1), (33, .ifCond .ge 5, 3), (36, .iconst 0, 1), (37, .ireturn, 1), (38, .aload_n 0, 1), (39, .invokevirtual 84, 3), (42, .aload_n 0, 1), (43, .iload_n 3, 1), (44, .iconst 0, 1), (45, .aload_n 0, 1), (46, .getfield 61, 3), (49, .iload_n 1, 1), (50, .invokevirtual 87, 3), (53, .aload_n 0, 1), (54, .getfield 25, 3), (57, .iload_n 2, 1), (58, .aaload, 1), (59, .getfield 122, 3), (62, .iconst 1, 1), (63, .isub, 1), (64, .if_icmp .ge 7, 3), (67, .iconst 1, 1), (68, .goto 4, 3), (71, .iconst 0, 1), (72, .ireturn, 1)] = true := by decide +kernel
theorem E96_0 {d sl : Nat} {p : Nat → Nat} {I : Nat → Nat → Int32} {J : Nat → Nat → Int64} (a1 : Int32)  : den (d + 1) 96 [.ref 11, .int a1] (S sl p I J) = ck (ixb 60 a1) ((if (I 12 (Int32.toNatClampNeg a1)) < 0 then some (some (.int 0), (S sl p I J)) else evK (d + 1) 96 19 [.ref 11, .int a1, .int (I 12 (Int32.toNatClampNeg a1)), .retAddr 0] [] (den d 101 [.ref 11, .int (I 12 (Int32.toNatClampNeg a1)), .int 0] (S sl p I J)))) := by
  refine (show den (d + 1) 96 [.ref 11, .int a1] (S sl p I J) = ev (d + 1) 96 0 [.ref 11, .int a1, .retAddr 0, .retAddr 0] [] (S sl p I J) from rfl).trans ?_
  refine (r_aln (dk D96 0 rfl) rfl).trans ?_
  refine (r_getR (dk D96 1 rfl) ow96 q10_19 ob_11 rfl).trans ?_
  refine (r_iln (dk D96 2 rfl) rfl).trans ?_
  refine (r_ild (dk D96 3 rfl) ar_12).trans (ck3 fun g1 => ?_)
  refine (r_isn (L' := [.ref 11, .int a1, .int (I 12 (Int32.toNatClampNeg a1)), .retAddr 0]) (dk D96 4 rfl) (Nat.le_of_ble_eq_true rfl) rfl).trans ?_
  refine (r_iln (dk D96 5 rfl) rfl).trans ?_
  refine (r_ge0 (dk D96 6 rfl) rfl).trans (ite2 ?_ ?_)
  · refine (r_ic (dk D96 7 rfl) ci0).trans ?_
    exact r_rez (dk D96 8 rfl) rt96 (by decide)
  · refine (r_aln (dk D96 9 rfl) rfl).trans ?_
    refine (r_iln (dk D96 10 rfl) rfl).trans ?_
    refine (r_ic (dk D96 11 rfl) ci0).trans ?_
    exact r_cv (dk D96 12 rfl) ow96 c10_119 mf101 (Nat.le_of_ble_eq_true rfl) rfl rfl (Nat.le_of_ble_eq_true rfl) (Nat.le_of_ble_eq_true rfl) ob_11
theorem E96_19 {d sl : Nat} {p : Nat → Nat} {I : Nat → Nat → Int32} {J : Nat → Nat → Int64} (l1 : Int32) (l2 : Int32) (s0 : Int32)  : ev (d + 1) 96 19 [.ref 11, .int l1, .int l2, .retAddr 0] [.int s0] (S sl p I J) = (if s0 = l1 then evK (d + 1) 96 31 [.ref 11, .int l1, .int l2, .int s0] [] (den d 101 [.ref 11, .int l2, .int 1] (S sl p I J)) else ev (d + 1) 96 32 [.ref 11, .int l1, .int l2, .int s0] [] (S sl p I J)) := by
  refine (r_isn (L' := [.ref 11, .int l1, .int l2, .int s0]) (dk D96 13 rfl) (Nat.le_of_ble_eq_true rfl) rfl).trans ?_
  refine (r_iln (dk D96 14 rfl) rfl).trans ?_
  refine (r_iln (dk D96 15 rfl) rfl).trans ?_
  refine (r_ne (dk D96 16 rfl) rfl).trans (ite2 ?_ ?_)
  · refine (r_aln (dk D96 17 rfl) rfl).trans ?_
    refine (r_iln (dk D96 18 rfl) rfl).trans ?_
    refine (r_ic (dk D96 19 rfl) ci1).trans ?_
    exact r_cv (dk D96 20 rfl) ow96 c10_119 mf101 (Nat.le_of_ble_eq_true rfl) rfl rfl (Nat.le_of_ble_eq_true rfl) (Nat.le_of_ble_eq_true rfl) ob_11
  · exact rfl
theorem E96_31 {d sl : Nat} {p : Nat → Nat} {I : Nat → Nat → Int32} {J : Nat → Nat → Int64} (l1 : Int32) (l2 : Int32) (l3 : Int32) (s0 : Int32)  : ev d 96 31 [.ref 11, .int l1, .int l2, .int l3] [.int s0] (S sl p I J) = ev d 96 32 [.ref 11, .int l1, .int l2, .int s0] [] (S sl p I J) := by
  refine (r_isn (L' := [.ref 11, .int l1, .int l2, .int s0]) (dk D96 21 rfl) (Nat.le_of_ble_eq_true rfl) rfl).trans ?_
  exact rfl
theorem E96_32 {d sl : Nat} {p : Nat → Nat} {I : Nat → Nat → Int32} {J : Nat → Nat → Int64} (l1 : Int32) (l2 : Int32) (l3 : Int32)  : ev (d + 1) 96 32 [.ref 11, .int l1, .int l2, .int l3] [] (S sl p I J) = (if l3 < 0 then some (some (.int 0), (S sl p I J)) else evK (d + 1) 96 42 [.ref 11, .int l1, .int l2, .int l3] [] (den d 89 [.ref 11] (S sl p I J))) := by
  refine (r_iln (dk D96 22 rfl) rfl).trans ?_
  refine (r_ge0 (dk D96 23 rfl) rfl).trans (ite2 ?_ ?_)
  · refine (r_ic (dk D96 24 rfl) ci0).trans ?_
    exact r_rez (dk D96 25 rfl) rt96 (by decide)
  · refine (r_aln (dk D96 26 rfl) rfl).trans ?_
    exact r_cv (dk D96 27 rfl) ow96 c10_84 mf89 (Nat.le_of_ble_eq_true rfl) rfl rfl (Nat.le_of_ble_eq_true rfl) (Nat.le_of_ble_eq_true rfl) ob_11
theorem E96_42 {d sl : Nat} {p : Nat → Nat} {I : Nat → Nat → Int32} {J : Nat → Nat → Int64} (l1 : Int32) (l2 : Int32) (l3 : Int32)  : ev (d + 1) 96 42 [.ref 11, .int l1, .int l2, .int l3] [] (S sl p I J) = evK (d + 1) 96 53 [.ref 11, .int l1, .int l2, .int l3] [] (den d 88 [.ref 11, .int l3, .int 0, .int (I 11 12), .int l1] (S sl p I J)) := by
  refine (r_aln (dk D96 28 rfl) rfl).trans ?_
  refine (r_iln (dk D96 29 rfl) rfl).trans ?_
  refine (r_ic (dk D96 30 rfl) ci0).trans ?_
  refine (r_aln (dk D96 31 rfl) rfl).trans ?_
  refine (r_getI (dk D96 32 rfl) ow96 q10_61 ob_11).trans ?_
  refine (r_iln (dk D96 33 rfl) rfl).trans ?_
  exact r_cv (dk D96 34 rfl) ow96 c10_87 mf88 (Nat.le_of_ble_eq_true rfl) rfl rfl (Nat.le_of_ble_eq_true rfl) (Nat.le_of_ble_eq_true rfl) ob_11
theorem E96_53 {d sl : Nat} {p : Nat → Nat} {I : Nat → Nat → Int32} {J : Nat → Nat → Int64} (l1 : Int32) (l2 : Int32) (l3 : Int32) (s0 : Int32)  : ev d 96 53 [.ref 11, .int l1, .int l2, .int l3] [.int s0] (S sl p I J) = ck (ixb 30 l2) ((if s0 < ((I (400 + (Int32.toNatClampNeg l2)) 3) - 1) then some (some (.int 1), (S sl p I J)) else some (some (.int 0), (S sl p I J)))) := by
  refine (r_aln (dk D96 35 rfl) rfl).trans ?_
  refine (r_getR (dk D96 36 rfl) ow96 q10_25 ob_11 rfl).trans ?_
  refine (r_iln (dk D96 37 rfl) rfl).trans ?_
  refine (r_ald (dk D96 38 rfl) ar_13 (by decide) rfA13).trans (ck3 fun g1 => ?_)
  refine (r_getI (dk D96 39 rfl) ow96 q10_122 (obG (ixb_lt g1))).trans ?_
  refine (r_ic (dk D96 40 rfl) ci1).trans ?_
  refine (r_isub (dk D96 41 rfl)).trans ?_
  refine (r_ge (dk D96 42 rfl) rfl).trans (ite2 ?_ ?_)
  · refine (r_ic (dk D96 43 rfl) ci1).trans ?_
    refine (r_goto (L' := [.ref 11, .int l1, .int l2, .int l3]) (dk D96 44 rfl) rfl nd96_72 rfl).trans ?_
    exact r_rez (dk D96 46 rfl) rt96 (by decide)
  · refine (r_ic (dk D96 45 rfl) ci0).trans ?_
    exact r_rez (dk D96 46 rfl) rt96 (by decide)
set_option maxRecDepth 20000 in
theorem D97 : dOK 97 [(0, .aload_n 0, 1), (1, .getfield 68, 3), (4, .aload_n 0, 1), (5, .getfield 9, 3), (8, .getfield 74, 3), (11, .if_icmp .ne 4, 3), (14, .return_, 1), (15, .aload_n 0, 1), (16, .aload_n 0, 1), (17, .getfield 9, 3), (20, .getfield 74, 3), (23, .putfield 68, 3), (26, .iconst 0, 1), (27, .istore_n 1, 1), (28, .iload_n 1, 1), (29, .bipush 45, 2), (31, .if_icmp .gt 16, 3), (34, .aload_n 0, 1), (35, .getfield 55, 3), (38, .iload_n 1, 1), (39, .iconst (-1), 1), (40, .iastore, 1), (41, .iinc 1 1, 3), (44, .goto (-16), 3), (47, .aload_n 0, 1), (48, .aload_n 0, 1), (49, .getfield 61, 3), (52, .iconst (-1), 1), (53, .invokevirtual 91, 3), (56, .istore_n 1, 1), (57, .aload_n 0, 1), (58, .iload_n 1, 1), (59, .invokevirtual 125, 3), (62, .aload_n 0, 1), (63, .iconst 0, 1), (64, .putfield 129, 3), (67, .iconst 0, 1), (68, .istore_n 2, 1), (69, .iload_n 2, 1), (70, .aload_n 0, 1), (71, .getfield 9, 3), (74, .getfield 77, 3), (77, .if_icmp .ge 16, 3), (80, .aload_n 0, 1), (81, .getfield 19, 3), (84, .iload_n 2, 1), (85, .iconst (-1), 1), (86, .iastore, 1), (87, .iinc 2 1, 3), (90, .goto (-21), 3), (93, .iconst 0, 1), (94, .istore_n 2, 1), (95, .iload_n 2, 1), (96, .iload_n 1, 1), (97, .if_icmp .ge 47, 3), (100, .aload_n 0, 1), (101, .getfield 43, 3), (104, .iload_n 2, 1), (105, .iaload, 1), (106, .aload_n 0, 1), (107, .getfield 65, 3), (110, .if_icmp .lt 28, 3), (113, .aload_n 0, 1), (114, .getfield 129, 3), (117, .bipush 30, 2), (119, .if_icmp .ge 19, 3), (122, .aload_n 0, 1), (123, .iload_n 2, 1), (124, .iload_n 1, 1), (125, .invokevirtual 132, 3), (128, .aload_n 0, 1), (129, .dup, 1), (130, .getfield 129, 3), (133, .iconst 1, 1), (134, .iadd, 1), (135, .putfield 129, 3), (138, .iinc 2 1, 3), (141, .goto (-46), 3), (144, .return_, 1)] = true := by decide +kernel
theorem E97_0 {d sl : Nat} {p : Nat → Nat} {I : Nat → Nat → Int32} {J : Nat → Nat → Int64}   : den d 97 [.ref 11] (S sl p I J) = (if (I 11 15) = (I 4 10) then some (none, (S sl p I J)) else ev d 97 28 [.ref 11, .int 0, .retAddr 0] [] (S sl p (up2 I 11 15 (I 4 10)) J)) := by
  refine (show den d 97 [.ref 11] (S sl p I J) = ev d 97 0 [.ref 11, .retAddr 0, .retAddr 0] [] (S sl p I J) from rfl).trans ?_
  refine (r_aln (dk D97 0 rfl) rfl).trans ?_
  refine (r_getI (dk D97 1 rfl) ow97 q10_68 ob_11).trans ?_
  refine (r_aln (dk D97 2 rfl) rfl).trans ?_
  refine (r_getR (dk D97 3 rfl) ow97 q10_9 ob_11 rfl).trans ?_
  refine (r_getI (dk D97 4 rfl) ow97 q10_74 ob_4).trans ?_
  refine (r_ne (dk D97 5 rfl) rfl).trans (ite2 ?_ ?_)
  · exact r_rev (dk D97 6 rfl) rt97
  · refine (r_aln (dk D97 7 rfl) rfl).trans ?_
    refine (r_aln (dk D97 8 rfl) rfl).trans ?_
    refine (r_getR (dk D97 9 rfl) ow97 q10_9 ob_11 rfl).trans ?_
    refine (r_getI (dk D97 10 rfl) ow97 q10_74 ob_4).trans ?_
    refine (r_putI (dk D97 11 rfl) ow97 w10_68 ob_11).trans ?_
    refine (r_ic (dk D97 12 rfl) ci0).trans ?_
    refine (r_isn (L' := [.ref 11, .int 0, .retAddr 0]) (dk D97 13 rfl) (Nat.le_of_ble_eq_true rfl) rfl).trans ?_
    exact rfl
theorem E97_28 {d sl : Nat} {p : Nat → Nat} {I : Nat → Nat → Int32} {J : Nat → Nat → Int64} (l1 : Int32)  : ev (d + 1) 97 28 [.ref 11, .int l1, .retAddr 0] [] (S sl p I J) = (if l1 ≤ 45 then ck (ixb 46 l1) (ev (d + 1) 97 28 [.ref 11, .int (l1 + 1), .retAddr 0] [] (S sl p (up2 I 20 (Int32.toNatClampNeg l1) (-1)) J)) else evK (d + 1) 97 56 [.ref 11, .int l1, .retAddr 0] [] (den d 90 [.ref 11, .int (I 11 12), .int (-1)] (S sl p I J))) := by
  refine (r_iln (dk D97 14 rfl) rfl).trans ?_
  refine (r_bp (dk D97 15 rfl) cb45).trans ?_
  refine (r_gt (dk D97 16 rfl) rfl).trans (ite2 ?_ ?_)
  · refine (r_aln (dk D97 17 rfl) rfl).trans ?_
    refine (r_getR (dk D97 18 rfl) ow97 q10_55 ob_11 rfl).trans ?_
    refine (r_iln (dk D97 19 rfl) rfl).trans ?_
    refine (r_ic (dk D97 20 rfl) cim1).trans ?_
    refine (r_ist (dk D97 21 rfl) ar_20).trans (ck3 fun g1 => ?_)
    refine (r_inc (L' := [.ref 11, .int (l1 + 1), .retAddr 0]) (dk D97 22 rfl) rfl rfl ci1 (Nat.le_of_ble_eq_true rfl) rfl).trans ?_
    refine (r_goto (L' := [.ref 11, .int (l1 + 1), .retAddr 0]) (dk D97 23 rfl) rfl nd97_28 rfl).trans ?_
    exact rfl
  · refine (r_aln (dk D97 24 rfl) rfl).trans ?_
    refine (r_aln (dk D97 25 rfl) rfl).trans ?_
    refine (r_getI (dk D97 26 rfl) ow97 q10_61 ob_11).trans ?_
    refine (r_ic (dk D97 27 rfl) cim1).trans ?_
    exact r_cv (dk D97 28 rfl) ow97 c10_91 mf90 (Nat.le_of_ble_eq_true rfl) rfl rfl (Nat.le_of_ble_eq_true rfl) (Nat.le_of_ble_eq_true rfl) ob_11
theorem E97_56 {d sl : Nat} {p : Nat → Nat} {I : Nat → Nat → Int32} {J : Nat → Nat → Int64} (l1 : Int32) (s0 : Int32)  : ev (d + 1) 97 56 [.ref 11, .int l1, .retAddr 0] [.int s0] (S sl p I J) = evK (d + 1) 97 62 [.ref 11, .int s0, .retAddr 0] [] (den d 98 [.ref 11, .int s0] (S sl p I J)) := by
  refine (r_isn (L' := [.ref 11, .int s0, .retAddr 0]) (dk D97 29 rfl) (Nat.le_of_ble_eq_true rfl) rfl).trans ?_
  refine (r_aln (dk D97 30 rfl) rfl).trans ?_
  refine (r_iln (dk D97 31 rfl) rfl).trans ?_
  exact r_cv (dk D97 32 rfl) ow97 c10_125 mf98 (Nat.le_of_ble_eq_true rfl) rfl rfl (Nat.le_of_ble_eq_true rfl) (Nat.le_of_ble_eq_true rfl) ob_11
theorem E97_62 {d sl : Nat} {p : Nat → Nat} {I : Nat → Nat → Int32} {J : Nat → Nat → Int64} (l1 : Int32)  : ev d 97 62 [.ref 11, .int l1, .retAddr 0] [] (S sl p I J) = ev d 97 69 [.ref 11, .int l1, .int 0] [] (S sl p (up2 I 11 14 0) J) := by
  refine (r_aln (dk D97 33 rfl) rfl).trans ?_
  refine (r_ic (dk D97 34 rfl) ci0).trans ?_
  refine (r_putI (dk D97 35 rfl) ow97 w10_129 ob_11).trans ?_
  refine (r_ic (dk D97 36 rfl) ci0).trans ?_
  refine (r_isn (L' := [.ref 11, .int l1, .int 0]) (dk D97 37 rfl) (Nat.le_of_ble_eq_true rfl) rfl).trans ?_
  exact rfl
theorem E97_69 {d sl : Nat} {p : Nat → Nat} {I : Nat → Nat → Int32} {J : Nat → Nat → Int64} (l1 : Int32) (l2 : Int32)  : ev d 97 69 [.ref 11, .int l1, .int l2] [] (S sl p I J) = (if l2 < (I 4 8) then ck (ixb 60 l2) (ev d 97 69 [.ref 11, .int l1, .int (l2 + 1)] [] (S sl p (up2 I 12 (Int32.toNatClampNeg l2) (-1)) J)) else ev d 97 95 [.ref 11, .int l1, .int 0] [] (S sl p I J)) := by
  refine (r_iln (dk D97 38 rfl) rfl).trans ?_
  refine (r_aln (dk D97 39 rfl) rfl).trans ?_
  refine (r_getR (dk D97 40 rfl) ow97 q10_9 ob_11 rfl).trans ?_
  refine (r_getI (dk D97 41 rfl) ow97 q10_77 ob_4).trans ?_
  refine (r_ge (dk D97 42 rfl) rfl).trans (ite2 ?_ ?_)
  · refine (r_aln (dk D97 43 rfl) rfl).trans ?_
    refine (r_getR (dk D97 44 rfl) ow97 q10_19 ob_11 rfl).trans ?_
    refine (r_iln (dk D97 45 rfl) rfl).trans ?_
    refine (r_ic (dk D97 46 rfl) cim1).trans ?_
    refine (r_ist (dk D97 47 rfl) ar_12).trans (ck3 fun g1 => ?_)
    refine (r_inc (L' := [.ref 11, .int l1, .int (l2 + 1)]) (dk D97 48 rfl) rfl rfl ci1 (Nat.le_of_ble_eq_true rfl) rfl).trans ?_
    refine (r_goto (L' := [.ref 11, .int l1, .int (l2 + 1)]) (dk D97 49 rfl) rfl nd97_69 rfl).trans ?_
    exact rfl
  · refine (r_ic (dk D97 50 rfl) ci0).trans ?_
    refine (r_isn (L' := [.ref 11, .int l1, .int 0]) (dk D97 51 rfl) (Nat.le_of_ble_eq_true rfl) rfl).trans ?_
    exact rfl
theorem E97_95 {d sl : Nat} {p : Nat → Nat} {I : Nat → Nat → Int32} {J : Nat → Nat → Int64} (l1 : Int32) (l2 : Int32)  : ev (d + 1) 97 95 [.ref 11, .int l1, .int l2] [] (S sl p I J) = (if l2 < l1 then ck (ixb 60 l2) ((if (I 16 (Int32.toNatClampNeg l2)) < (I 11 13) then ev (d + 1) 97 95 [.ref 11, .int l1, .int (l2 + 1)] [] (S sl p I J) else (if (I 11 14) < 30 then evK (d + 1) 97 128 [.ref 11, .int l1, .int l2] [] (den d 99 [.ref 11, .int l2, .int l1] (S sl p I J)) else ev (d + 1) 97 95 [.ref 11, .int l1, .int (l2 + 1)] [] (S sl p I J)))) else some (none, (S sl p I J))) := by
  refine (r_iln (dk D97 52 rfl) rfl).trans ?_
  refine (r_iln (dk D97 53 rfl) rfl).trans ?_
  refine (r_ge (dk D97 54 rfl) rfl).trans (ite2 ?_ ?_)
  · refine (r_aln (dk D97 55 rfl) rfl).trans ?_
    refine (r_getR (dk D97 56 rfl) ow97 q10_43 ob_11 rfl).trans ?_
    refine (r_iln (dk D97 57 rfl) rfl).trans ?_
    refine (r_ild (dk D97 58 rfl) ar_16).trans (ck3 fun g1 => ?_)
    refine (r_aln (dk D97 59 rfl) rfl).trans ?_
    refine (r_getI (dk D97 60 rfl) ow97 q10_65 ob_11).trans ?_
    refine (r_lt (dk D97 61 rfl) rfl).trans (ite2 ?_ ?_)
    · refine (r_inc (L' := [.ref 11, .int l1, .int (l2 + 1)]) (dk D97 76 rfl) rfl rfl ci1 (Nat.le_of_ble_eq_true rfl) rfl).trans ?_
      refine (r_goto (L' := [.ref 11, .int l1, .int (l2 + 1)]) (dk D97 77 rfl) rfl nd97_95 rfl).trans ?_
      exact rfl
    · refine (r_aln (dk D97 62 rfl) rfl).trans ?_
      refine (r_getI (dk D97 63 rfl) ow97 q10_129 ob_11).trans ?_
      refine (r_bp (dk D97 64 rfl) cb30).trans ?_
      refine (r_ge (dk D97 65 rfl) rfl).trans (ite2 ?_ ?_)
      · refine (r_aln (dk D97 66 rfl) rfl).trans ?_
        refine (r_iln (dk D97 67 rfl) rfl).trans ?_
        refine (r_iln (dk D97 68 rfl) rfl).trans ?_
        exact r_cv (dk D97 69 rfl) ow97 c10_132 mf99 (Nat.le_of_ble_eq_true rfl) rfl rfl (Nat.le_of_ble_eq_true rfl) (Nat.le_of_ble_eq_true rfl) ob_11
      · refine (r_inc (L' := [.ref 11, .int l1, .int (l2 + 1)]) (dk D97 76 rfl) rfl rfl ci1 (Nat.le_of_ble_eq_true rfl) rfl).trans ?_
        refine (r_goto (L' := [.ref 11, .int l1, .int (l2 + 1)]) (dk D97 77 rfl) rfl nd97_95 rfl).trans ?_
        exact rfl
  · exact r_rev (dk D97 78 rfl) rt97
theorem E97_128 {d sl : Nat} {p : Nat → Nat} {I : Nat → Nat → Int32} {J : Nat → Nat → Int64} (l1 : Int32) (l2 : Int32)  : ev d 97 128 [.ref 11, .int l1, .int l2] [] (S sl p I J) = ev d 97 95 [.ref 11, .int l1, .int (l2 + 1)] [] (S sl p (up2 I 11 14 ((I 11 14) + 1)) J) := by
  refine (r_aln (dk D97 70 rfl) rfl).trans ?_
  refine (r_dup (dk D97 71 rfl) rfl).trans ?_
  refine (r_getI (dk D97 72 rfl) ow97 q10_129 ob_11).trans ?_
  refine (r_ic (dk D97 73 rfl) ci1).trans ?_
  refine (r_iadd (dk D97 74 rfl)).trans ?_
  refine (r_putI (dk D97 75 rfl) ow97 w10_129 ob_11).trans ?_
  refine (r_inc (L' := [.ref 11, .int l1, .int (l2 + 1)]) (dk D97 76 rfl) rfl rfl ci1 (Nat.le_of_ble_eq_true rfl) rfl).trans ?_
  refine (r_goto (L' := [.ref 11, .int l1, .int (l2 + 1)]) (dk D97 77 rfl) rfl nd97_95 rfl).trans ?_
  exact rfl
set_option maxRecDepth 20000 in
theorem D98 : dOK 98 [(0, .iconst 0, 1), (1, .istore_n 2, 1), (2, .iload_n 2, 1), (3, .iload_n 1, 1), (4, .if_icmp .ge 17, 3), (7, .aload_n 0, 1), (8, .getfield 46, 3), (11, .iload_n 2, 1), (12, .ldc 136, 2), (14, .iastore, 1), (15, .iinc 2 1, 3), (18, .goto (-16), 3), (21, .iconst 0, 1), (22, .istore_n 2, 1), (23, .iload_n 2, 1), (24, .aload_n 0, 1), (25, .getfield 9, 3), (28, .getfield 77, 3), (31, .if_icmp .ge 47, 3), (34, .aload_n 0, 1), (35, .getfield 40, 3), (38, .iload_n 2, 1), (39, .iaload, 1), (40, .istore_n 3, 1), (41, .iload_n 3, 1), (42, .ifCond .lt 30, 3), (45, .aload_n 0, 1), (46, .getfield 46, 3), (49, .iload_n 3, 1), (50, .aload_n 0, 1), (51, .getfield 46, 3), (54, .iload_n 3, 1), (55, .iaload, 1), (56, .aload_n 0, 1), (57, .getfield 9, 3), (60, .getfield 137, 3), (63, .iload_n 2, 1), (64, .aaload, 1), (65, .getfield 141, 3), (68, .invokestatic 106, 3), (71, .iastore, 1), (72, .iinc 2 1, 3), (75, .goto (-52), 3), (78, .return_, 1)] = true := by decide +kernel
theorem E98_0 {d sl : Nat} {p : Nat → Nat} {I : Nat → Nat → Int32} {J : Nat → Nat → Int64} (a1 : Int32)  : den d 98 [.ref 11, .int a1] (S sl p I J) = ev d 98 2 [.ref 11, .int a1, .int 0, .retAddr 0] [] (S sl p I J) := by
  refine (show den d 98 [.ref 11, .int a1] (S sl p I J) = ev d 98 0 [.ref 11, .int a1, .retAddr 0, .retAddr 0] [] (S sl p I J) from rfl).trans ?_
  refine (r_ic (dk D98 0 rfl) ci0).trans ?_
  refine (r_isn (L' := [.ref 11, .int a1, .int 0, .retAddr 0]) (dk D98 1 rfl) (Nat.le_of_ble_eq_true rfl) rfl).trans ?_
  exact rfl
theorem E98_2 {d sl : Nat} {p : Nat → Nat} {I : Nat → Nat → Int32} {J : Nat → Nat → Int64} (l1 : Int32) (l2 : Int32)  : ev d 98 2 [.ref 11, .int l1, .int l2, .retAddr 0] [] (S sl p I J) = (if l2 < l1 then ck (ixb 60 l2) (ev d 98 2 [.ref 11, .int l1, .int (l2 + 1), .retAddr 0] [] (S sl p (up2 I 17 (Int32.toNatClampNeg l2) 1073741824) J)) else ev d 98 23 [.ref 11, .int l1, .int 0, .retAddr 0] [] (S sl p I J)) := by
  refine (r_iln (dk D98 2 rfl) rfl).trans ?_
  refine (r_iln (dk D98 3 rfl) rfl).trans ?_
  refine (r_ge (dk D98 4 rfl) rfl).trans (ite2 ?_ ?_)
  · refine (r_aln (dk D98 5 rfl) rfl).trans ?_
    refine (r_getR (dk D98 6 rfl) ow98 q10_46 ob_11 rfl).trans ?_
    refine (r_iln (dk D98 7 rfl) rfl).trans ?_
    refine (r_ldc (dk D98 8 rfl) ow98 k10_136).trans ?_
    refine (r_ist (dk D98 9 rfl) ar_17).trans (ck3 fun g1 => ?_)
    refine (r_inc (L' := [.ref 11, .int l1, .int (l2 + 1), .retAddr 0]) (dk D98 10 rfl) rfl rfl ci1 (Nat.le_of_ble_eq_true rfl) rfl).trans ?_
    refine (r_goto (L' := [.ref 11, .int l1, .int (l2 + 1), .retAddr 0]) (dk D98 11 rfl) rfl nd98_2 rfl).trans ?_
    exact rfl
  · refine (r_ic (dk D98 12 rfl) ci0).trans ?_
    refine (r_isn (L' := [.ref 11, .int l1, .int 0, .retAddr 0]) (dk D98 13 rfl) (Nat.le_of_ble_eq_true rfl) rfl).trans ?_
    exact rfl
theorem E98_23 {d sl : Nat} {p : Nat → Nat} {I : Nat → Nat → Int32} {J : Nat → Nat → Int64} (l1 : Int32) (l2 : Int32) (hp : ∀ k, p k < 60)  : ev (d + 1) 98 23 [.ref 11, .int l1, .int l2, .retAddr 0] [] (S sl p I J) = (if l2 < (I 4 8) then ck (ixb 60 l2) ((if (I 15 (Int32.toNatClampNeg l2)) < 0 then ev (d + 1) 98 23 [.ref 11, .int l1, .int (l2 + 1), .retAddr 0] [] (S sl p I J) else ck (ixb 60 (I 15 (Int32.toNatClampNeg l2))) (ck (ixb 60 l2) (ck (ixb 60 (I 15 (Int32.toNatClampNeg l2))) (ev (d + 1) 98 23 [.ref 11, .int l1, .int (l2 + 1), .retAddr 0] [] (S sl p (up2 I 17 (Int32.toNatClampNeg (I 15 (Int32.toNatClampNeg l2))) (if (I (200 + p (Int32.toNatClampNeg l2)) 7) < (I 17 (Int32.toNatClampNeg (I 15 (Int32.toNatClampNeg l2)))) then (I (200 + p (Int32.toNatClampNeg l2)) 7) else (I 17 (Int32.toNatClampNeg (I 15 (Int32.toNatClampNeg l2)))))) J)))))) else some (none, (S sl p I J))) := by
  refine (r_iln (dk D98 14 rfl) rfl).trans ?_
  refine (r_aln (dk D98 15 rfl) rfl).trans ?_
  refine (r_getR (dk D98 16 rfl) ow98 q10_9 ob_11 rfl).trans ?_
  refine (r_getI (dk D98 17 rfl) ow98 q10_77 ob_4).trans ?_
  refine (r_ge (dk D98 18 rfl) rfl).trans (ite2 ?_ ?_)
  · refine (r_aln (dk D98 19 rfl) rfl).trans ?_
    refine (r_getR (dk D98 20 rfl) ow98 q10_40 ob_11 rfl).trans ?_
    refine (r_iln (dk D98 21 rfl) rfl).trans ?_
    refine (r_ild (dk D98 22 rfl) ar_15).trans (ck3 fun g1 => ?_)
    refine (r_isn (L' := [.ref 11, .int l1, .int l2, .int (I 15 (Int32.toNatClampNeg l2))]) (dk D98 23 rfl) (Nat.le_of_ble_eq_true rfl) rfl).trans ?_
    refine (r_iln (dk D98 24 rfl) rfl).trans ?_
    refine (r_lt0 (dk D98 25 rfl) rfl).trans (ite2 ?_ ?_)
    · refine (r_inc (L' := [.ref 11, .int l1, .int (l2 + 1), .int (I 15 (Int32.toNatClampNeg l2))]) (dk D98 41 rfl) rfl rfl ci1 (Nat.le_of_ble_eq_true rfl) rfl).trans ?_
      refine (r_goto (L' := [.ref 11, .int l1, .int (l2 + 1), .retAddr 0]) (dk D98 42 rfl) rfl nd98_23 rfl).trans ?_
      exact rfl
    · refine (r_aln (dk D98 26 rfl) rfl).trans ?_
      refine (r_getR (dk D98 27 rfl) ow98 q10_46 ob_11 rfl).trans ?_
      refine (r_iln (dk D98 28 rfl) rfl).trans ?_
      refine (r_aln (dk D98 29 rfl) rfl).trans ?_
      refine (r_getR (dk D98 30 rfl) ow98 q10_46 ob_11 rfl).trans ?_
      refine (r_iln (dk D98 31 rfl) rfl).trans ?_
      refine (r_ild (dk D98 32 rfl) ar_17).trans (ck3 fun g2 => ?_)
      refine (r_aln (dk D98 33 rfl) rfl).trans ?_
      refine (r_getR (dk D98 34 rfl) ow98 q10_9 ob_11 rfl).trans ?_
      refine (r_getR (dk D98 35 rfl) ow98 q10_137 ob_4 rfl).trans ?_
      refine (r_iln (dk D98 36 rfl) rfl).trans ?_
      refine (r_ald (dk D98 37 rfl) ar_9 (by decide) rfA9).trans (ck3 fun g3 => ?_)
      refine (r_getI (dk D98 38 rfl) ow98 q10_141 (obC (hp (Int32.toNatClampNeg l2)))).trans ?_
      refine (r_prm (st' := [.int (if (I (200 + p (Int32.toNatClampNeg l2)) 7) < (I 17 (Int32.toNatClampNeg (I 15 (Int32.toNatClampNeg l2)))) then (I (200 + p (Int32.toNatClampNeg l2)) 7) else (I 17 (Int32.toNatClampNeg (I 15 (Int32.toNatClampNeg l2))))), .int (I 15 (Int32.toNatClampNeg l2)), .ref 17]) (dk D98 39 rfl) ow98 p10_106 (Nat.le_of_ble_eq_true rfl) rfl).trans ?_
      refine (r_ist (dk D98 40 rfl) ar_17).trans (ck3 fun g4 => ?_)
      refine (r_inc (L' := [.ref 11, .int l1, .int (l2 + 1), .int (I 15 (Int32.toNatClampNeg l2))]) (dk D98 41 rfl) rfl rfl ci1 (Nat.le_of_ble_eq_true rfl) rfl).trans ?_
      refine (r_goto (L' := [.ref 11, .int l1, .int (l2 + 1), .retAddr 0]) (dk D98 42 rfl) rfl nd98_23 rfl).trans ?_
      exact rfl
  · exact r_rev (dk D98 43 rfl) rt98
set_option maxRecDepth 20000 in
theorem D99 : dOK 99 [(0, .iconst 0, 1), (1, .istore_n 3, 1), (2, .iconst 0, 1), (3, .istore 4, 2), (5, .iload 4, 2), (7, .iload_n 2, 1), (8, .if_icmp .ge 72, 3), (11, .aload_n 0, 1), (12, .getfield 43, 3), (15, .iload 4, 2), (17, .iaload, 1), (18, .aload_n 0, 1), (19, .getfield 43, 3), (22, .iload_n 1, 1), (23, .iaload, 1), (24, .if_icmp .ne 7, 3), (27, .iconst 1, 1), (28, .goto 4, 3), (31, .iconst 0, 1), (32, .istore 5, 2), (34, .aload_n 0, 1), (35, .getfield 43, 3), (38, .iload 4, 2), (40, .iaload, 1), (41, .aload_n 0, 1), (42, .getfield 43, 3), (45, .iload_n 1, 1), (46, .iaload, 1), (47, .if_icmp .gt 24, 3), (50, .iload 5, 2), (52, .ifCond .eq 22, 3), (55, .aload_n 0, 1), (56, .getfield 46, 3), (59, .iload 4, 2), (61, .iaload, 1), (62, .aload_n 0, 1), (63, .getfield 46, 3), (66, .iload_n 1, 1), (67, .iaload, 1), (68, .if_icmp .ge 6, 3), (71, .iinc 3 1, 3), (74, .iinc 4 1, 3), (77, .goto (-72), 3), (80, .iconst 0, 1), (81, .istore 4, 2), (83, .iload 4, 2), (85, .aload_n 0, 1), (86, .getfield 9, 3), (89, .getfield 77, 3), (92, .if_icmp .ge 28, 3), (95, .aload_n 0, 1), (96, .getfield 40, 3), (99, .iload 4, 2), (101, .iaload, 1), (102, .iload_n 1, 1), (103, .if_icmp .ne 11, 3), (106, .aload_n 0, 1), (107, .getfield 19, 3), (110, .iload 4, 2), (112, .iload_n 3, 1), (113, .iastore, 1), (114, .iinc 4 1, 3), (117, .goto (-34), 3), (120, .aload_n 0, 1), (121, .getfield 25, 3), (124, .iload_n 3, 1), (125, .aaload, 1), (126, .aload_n 0, 1), (127, .getfield 43, 3), (130, .iload_n 1, 1), (131, .iaload, 1), (132, .aload_n 0, 1), (133, .getfield 46, 3), (136, .iload_n 1, 1), (137, .iaload, 1), (138, .invokevirtual 146, 3), (141, .return_, 1)] = true := by decide +kernel
theorem E99_0 {d sl : Nat} {p : Nat → Nat} {I : Nat → Nat → Int32} {J : Nat → Nat → Int64} (a1 : Int32) (a2 : Int32)  : den d 99 [.ref 11, .int a1, .int a2] (S sl p I J) = ev d 99 5 [.ref 11, .int a1, .int a2, .int 0, .int 0, .retAddr 0] [] (S sl p I J) := by
  refine (show den d 99 [.ref 11, .int a1, .int a2] (S sl p I J) = ev d 99 0 [.ref 11, .int a1, .int a2, .retAddr 0, .retAddr 0, .retAddr 0] [] (S sl p I J) from rfl).trans ?_
  refine (r_ic (dk D99 0 rfl) ci0).trans ?_
  refine (r_isn (L' := [.ref 11, .int a1, .int a2, .int 0, .retAddr 0, .retAddr 0]) (dk D99 1 rfl) (Nat.le_of_ble_eq_true rfl) rfl).trans ?_
  refine (r_ic (dk D99 2 rfl) ci0).trans ?_
  refine (r_is (L' := [.ref 11, .int a1, .int a2, .int 0, .int 0, .retAddr 0]) (dk D99 3 rfl) (Nat.le_of_ble_eq_true rfl) rfl).trans ?_
  exact rfl
theorem E99_5 {d sl : Nat} {p : Nat → Nat} {I : Nat → Nat → Int32} {J : Nat → Nat → Int64} (l1 : Int32) (l2 : Int32) (l3 : Int32) (l4 : Int32)  : ev d 99 5 [.ref 11, .int l1, .int l2, .int l3, .int l4, .retAddr 0] [] (S sl p I J) = (if l4 < l2 then ck (ixb 60 l4) (ck (ixb 60 l1) ((if (I 16 (Int32.toNatClampNeg l4)) = (I 16 (Int32.toNatClampNeg l1)) then ev d 99 32 [.ref 11, .int l1, .int l2, .int l3, .int l4, .retAddr 0] [.int 1] (S sl p I J) else ev d 99 32 [.ref 11, .int l1, .int l2, .int l3, .int l4, .retAddr 0] [.int 0] (S sl p I J)))) else ev d 99 83 [.ref 11, .int l1, .int l2, .int l3, .int 0, .retAddr 0] [] (S sl p I J)) := by
  refine (r_il (dk D99 4 rfl) rfl).trans ?_
  refine (r_iln (dk D99 5 rfl) rfl).trans ?_
  refine (r_ge (dk D99 6 rfl) rfl).trans (ite2 ?_ ?_)
  · refine (r_aln (dk D99 7 rfl) rfl).trans ?_
    refine (r_getR (dk D99 8 rfl) ow99 q10_43 ob_11 rfl).trans ?_
    refine (r_il (dk D99 9 rfl) rfl).trans ?_
    refine (r_ild (dk D99 10 rfl) ar_16).trans (ck3 fun g1 => ?_)
    refine (r_aln (dk D99 11 rfl) rfl).trans ?_
    refine (r_getR (dk D99 12 rfl) ow99 q10_43 ob_11 rfl).trans ?_
    refine (r_iln (dk D99 13 rfl) rfl).trans ?_
    refine (r_ild (dk D99 14 rfl) ar_16).trans (ck3 fun g2 => ?_)
    refine (r_ne (dk D99 15 rfl) rfl).trans (ite2 ?_ ?_)
    · refine (r_ic (dk D99 16 rfl) ci1).trans ?_
      refine (r_goto (L' := [.ref 11, .int l1, .int l2, .int l3, .int l4, .retAddr 0]) (dk D99 17 rfl) rfl nd99_32 rfl).trans ?_
      exact rfl
    · refine (r_ic (dk D99 18 rfl) ci0).trans ?_
      exact rfl
  · refine (r_ic (dk D99 43 rfl) ci0).trans ?_
    refine (r_is (L' := [.ref 11, .int l1, .int l2, .int l3, .int 0, .retAddr 0]) (dk D99 44 rfl) (Nat.le_of_ble_eq_true rfl) rfl).trans ?_
    exact rfl
theorem E99_32 {d sl : Nat} {p : Nat → Nat} {I : Nat → Nat → Int32} {J : Nat → Nat → Int64} (l1 : Int32) (l2 : Int32) (l3 : Int32) (l4 : Int32) (s0 : Int32)  : ev d 99 32 [.ref 11, .int l1, .int l2, .int l3, .int l4, .retAddr 0] [.int s0] (S sl p I J) = ck (ixb 60 l4) (ck (ixb 60 l1) ((if (I 16 (Int32.toNatClampNeg l4)) ≤ (I 16 (Int32.toNatClampNeg l1)) then (if s0 = 0 then ev d 99 5 [.ref 11, .int l1, .int l2, .int l3, .int (l4 + 1), .retAddr 0] [] (S sl p I J) else ck (ixb 60 l4) (ck (ixb 60 l1) ((if (I 17 (Int32.toNatClampNeg l4)) < (I 17 (Int32.toNatClampNeg l1)) then ev d 99 5 [.ref 11, .int l1, .int l2, .int (l3 + 1), .int (l4 + 1), .retAddr 0] [] (S sl p I J) else ev d 99 5 [.ref 11, .int l1, .int l2, .int l3, .int (l4 + 1), .retAddr 0] [] (S sl p I J))))) else ev d 99 5 [.ref 11, .int l1, .int l2, .int (l3 + 1), .int (l4 + 1), .retAddr 0] [] (S sl p I J)))) := by
  refine (r_is (L' := [.ref 11, .int l1, .int l2, .int l3, .int l4, .int s0]) (dk D99 19 rfl) (Nat.le_of_ble_eq_true rfl) rfl).trans ?_
  refine (r_aln (dk D99 20 rfl) rfl).trans ?_
  refine (r_getR (dk D99 21 rfl) ow99 q10_43 ob_11 rfl).trans ?_
  refine (r_il (dk D99 22 rfl) rfl).trans ?_
  refine (r_ild (dk D99 23 rfl) ar_16).trans (ck3 fun g1 => ?_)
  refine (r_aln (dk D99 24 rfl) rfl).trans ?_
  refine (r_getR (dk D99 25 rfl) ow99 q10_43 ob_11 rfl).trans ?_
  refine (r_iln (dk D99 26 rfl) rfl).trans ?_
  refine (r_ild (dk D99 27 rfl) ar_16).trans (ck3 fun g2 => ?_)
  refine (r_gt (dk D99 28 rfl) rfl).trans (ite2 ?_ ?_)
  · refine (r_il (dk D99 29 rfl) rfl).trans ?_
    refine (r_eq0 (dk D99 30 rfl) rfl).trans (ite2 ?_ ?_)
    · refine (r_inc (L' := [.ref 11, .int l1, .int l2, .int l3, .int (l4 + 1), .int s0]) (dk D99 41 rfl) rfl rfl ci1 (Nat.le_of_ble_eq_true rfl) rfl).trans ?_
      refine (r_goto (L' := [.ref 11, .int l1, .int l2, .int l3, .int (l4 + 1), .retAddr 0]) (dk D99 42 rfl) rfl nd99_5 rfl).trans ?_
      exact rfl
    · refine (r_aln (dk D99 31 rfl) rfl).trans ?_
      refine (r_getR (dk D99 32 rfl) ow99 q10_46 ob_11 rfl).trans ?_
      refine (r_il (dk D99 33 rfl) rfl).trans ?_
      refine (r_ild (dk D99 34 rfl) ar_17).trans (ck3 fun g3 => ?_)
      refine (r_aln (dk D99 35 rfl) rfl).trans ?_
      refine (r_getR (dk D99 36 rfl) ow99 q10_46 ob_11 rfl).trans ?_
      refine (r_iln (dk D99 37 rfl) rfl).trans ?_
      refine (r_ild (dk D99 38 rfl) ar_17).trans (ck3 fun g4 => ?_)
      refine (r_ge (dk D99 39 rfl) rfl).trans (ite2 ?_ ?_)
      · refine (r_inc (L' := [.ref 11, .int l1, .int l2, .int (l3 + 1), .int l4, .int s0]) (dk D99 40 rfl) rfl rfl ci1 (Nat.le_of_ble_eq_true rfl) rfl).trans ?_
        refine (r_inc (L' := [.ref 11, .int l1, .int l2, .int (l3 + 1), .int (l4 + 1), .int s0]) (dk D99 41 rfl) rfl rfl ci1 (Nat.le_of_ble_eq_true rfl) rfl).trans ?_
        refine (r_goto (L' := [.ref 11, .int l1, .int l2, .int (l3 + 1), .int (l4 + 1), .retAddr 0]) (dk D99 42 rfl) rfl nd99_5 rfl).trans ?_
        exact rfl
      · refine (r_inc (L' := [.ref 11, .int l1, .int l2, .int l3, .int (l4 + 1), .int s0]) (dk D99 41 rfl) rfl rfl ci1 (Nat.le_of_ble_eq_true rfl) rfl).trans ?_
        refine (r_goto (L' := [.ref 11, .int l1, .int l2, .int l3, .int (l4 + 1), .retAddr 0]) (dk D99 42 rfl) rfl nd99_5 rfl).trans ?_
        exact rfl
  · refine (r_inc (L' := [.ref 11, .int l1, .int l2, .int (l3 + 1), .int l4, .int s0]) (dk D99 40 rfl) rfl rfl ci1 (Nat.le_of_ble_eq_true rfl) rfl).trans ?_
    refine (r_inc (L' := [.ref 11, .int l1, .int l2, .int (l3 + 1), .int (l4 + 1), .int s0]) (dk D99 41 rfl) rfl rfl ci1 (Nat.le_of_ble_eq_true rfl) rfl).trans ?_
    refine (r_goto (L' := [.ref 11, .int l1, .int l2, .int (l3 + 1), .int (l4 + 1), .retAddr 0]) (dk D99 42 rfl) rfl nd99_5 rfl).trans ?_
    exact rfl
theorem E99_83 {d sl : Nat} {p : Nat → Nat} {I : Nat → Nat → Int32} {J : Nat → Nat → Int64} (l1 : Int32) (l2 : Int32) (l3 : Int32) (l4 : Int32)  : ev (d + 1) 99 83 [.ref 11, .int l1, .int l2, .int l3, .int l4, .retAddr 0] [] (S sl p I J) = (if l4 < (I 4 8) then ck (ixb 60 l4) ((if (I 15 (Int32.toNatClampNeg l4)) = l1 then ck (ixb 60 l4) (ev (d + 1) 99 83 [.ref 11, .int l1, .int l2, .int l3, .int (l4 + 1), .retAddr 0] [] (S sl p (up2 I 12 (Int32.toNatClampNeg l4) l3) J)) else ev (d + 1) 99 83 [.ref 11, .int l1, .int l2, .int l3, .int (l4 + 1), .retAddr 0] [] (S sl p I J))) else ck (ixb 30 l3) (ck (ixb 60 l1) (ck (ixb 60 l1) (evK (d + 1) 99 141 [.ref 11, .int l1, .int l2, .int l3, .int l4, .retAddr 0] [] (den d 13 [.ref (400 + (Int32.toNatClampNeg l3)), .int (I 16 (Int32.toNatClampNeg l1)), .int (I 17 (Int32.toNatClampNeg l1))] (S sl p I J)))))) := by
  refine (r_il (dk D99 45 rfl) rfl).trans ?_
  refine (r_aln (dk D99 46 rfl) rfl).trans ?_
  refine (r_getR (dk D99 47 rfl) ow99 q10_9 ob_11 rfl).trans ?_
  refine (r_getI (dk D99 48 rfl) ow99 q10_77 ob_4).trans ?_
  refine (r_ge (dk D99 49 rfl) rfl).trans (ite2 ?_ ?_)
  · refine (r_aln (dk D99 50 rfl) rfl).trans ?_
    refine (r_getR (dk D99 51 rfl) ow99 q10_40 ob_11 rfl).trans ?_
    refine (r_il (dk D99 52 rfl) rfl).trans ?_
    refine (r_ild (dk D99 53 rfl) ar_15).trans (ck3 fun g1 => ?_)
    refine (r_iln (dk D99 54 rfl) rfl).trans ?_
    refine (r_ne (dk D99 55 rfl) rfl).trans (ite2 ?_ ?_)
    · refine (r_aln (dk D99 56 rfl) rfl).trans ?_
      refine (r_getR (dk D99 57 rfl) ow99 q10_19 ob_11 rfl).trans ?_
      refine (r_il (dk D99 58 rfl) rfl).trans ?_
      refine (r_iln (dk D99 59 rfl) rfl).trans ?_
      refine (r_ist (dk D99 60 rfl) ar_12).trans (ck3 fun g2 => ?_)
      refine (r_inc (L' := [.ref 11, .int l1, .int l2, .int l3, .int (l4 + 1), .retAddr 0]) (dk D99 61 rfl) rfl rfl ci1 (Nat.le_of_ble_eq_true rfl) rfl).trans ?_
      refine (r_goto (L' := [.ref 11, .int l1, .int l2, .int l3, .int (l4 + 1), .retAddr 0]) (dk D99 62 rfl) rfl nd99_83 rfl).trans ?_
      exact rfl
    · refine (r_inc (L' := [.ref 11, .int l1, .int l2, .int l3, .int (l4 + 1), .retAddr 0]) (dk D99 61 rfl) rfl rfl ci1 (Nat.le_of_ble_eq_true rfl) rfl).trans ?_
      refine (r_goto (L' := [.ref 11, .int l1, .int l2, .int l3, .int (l4 + 1), .retAddr 0]) (dk D99 62 rfl) rfl nd99_83 rfl).trans ?_
      exact rfl
  · refine (r_aln (dk D99 63 rfl) rfl).trans ?_
    refine (r_getR (dk D99 64 rfl) ow99 q10_25 ob_11 rfl).trans ?_
    refine (r_iln (dk D99 65 rfl) rfl).trans ?_
    refine (r_ald (dk D99 66 rfl) ar_13 (by decide) rfA13).trans (ck3 fun g3 => ?_)
    refine (r_aln (dk D99 67 rfl) rfl).trans ?_
    refine (r_getR (dk D99 68 rfl) ow99 q10_43 ob_11 rfl).trans ?_
    refine (r_iln (dk D99 69 rfl) rfl).trans ?_
    refine (r_ild (dk D99 70 rfl) ar_16).trans (ck3 fun g4 => ?_)
    refine (r_aln (dk D99 71 rfl) rfl).trans ?_
    refine (r_getR (dk D99 72 rfl) ow99 q10_46 ob_11 rfl).trans ?_
    refine (r_iln (dk D99 73 rfl) rfl).trans ?_
    refine (r_ild (dk D99 74 rfl) ar_17).trans (ck3 fun g5 => ?_)
    exact r_cv (dk D99 75 rfl) ow99 c10_146 mf13 (Nat.le_of_ble_eq_true rfl) rfl rfl (Nat.le_of_ble_eq_true rfl) (Nat.le_of_ble_eq_true rfl) (obG (ixb_lt g3))
theorem E99_141 {d sl : Nat} {p : Nat → Nat} {I : Nat → Nat → Int32} {J : Nat → Nat → Int64} (l1 : Int32) (l2 : Int32) (l3 : Int32) (l4 : Int32)  : ev d 99 141 [.ref 11, .int l1, .int l2, .int l3, .int l4, .retAddr 0] [] (S sl p I J) = some (none, (S sl p I J)) := by
  exact r_rev (dk D99 76 rfl) rt99
set_option maxRecDepth 20000 in
theorem D100 : dOK 100 [(0, .aload_n 0, 1), (1, .invokevirtual 149, 3), (4, .iload_n 1, 1), (5, .ifCond .lt 15, 3), (8, .iload_n 1, 1), (9, .aload_n 0, 1), (10, .getfield 129, 3), (13, .if_icmp .ge 7, 3), (16, .iconst 1, 1), (17, .goto 4, 3), (20, .iconst 0, 1), (21, .ireturn, 1)] = true := by decide +kernel
theorem E100_0 {d sl : Nat} {p : Nat → Nat} {I : Nat → Nat → Int32} {J : Nat → Nat → Int64} (a1 : Int32)  : den (d + 1) 100 [.ref 11, .int a1] (S sl p I J) = evK (d + 1) 100 4 [.ref 11, .int a1] [] (den d 97 [.ref 11] (S sl p I J)) := by
  refine (show den (d + 1) 100 [.ref 11, .int a1] (S sl p I J) = ev (d + 1) 100 0 [.ref 11, .int a1] [] (S sl p I J) from rfl).trans ?_
  refine (r_aln (dk D100 0 rfl) rfl).trans ?_
  exact r_cv (dk D100 1 rfl) ow100 c10_149 mf97 (Nat.le_of_ble_eq_true rfl) rfl rfl (Nat.le_of_ble_eq_true rfl) (Nat.le_of_ble_eq_true rfl) ob_11
theorem E100_4 {d sl : Nat} {p : Nat → Nat} {I : Nat → Nat → Int32} {J : Nat → Nat → Int64} (l1 : Int32)  : ev d 100 4 [.ref 11, .int l1] [] (S sl p I J) = (if l1 < 0 then some (some (.int 0), (S sl p I J)) else (if l1 < (I 11 14) then some (some (.int 1), (S sl p I J)) else some (some (.int 0), (S sl p I J)))) := by
  refine (r_iln (dk D100 2 rfl) rfl).trans ?_
  refine (r_lt0 (dk D100 3 rfl) rfl).trans (ite2 ?_ ?_)
  · refine (r_ic (dk D100 10 rfl) ci0).trans ?_
    exact r_rez (dk D100 11 rfl) rt100 (by decide)
  · refine (r_iln (dk D100 4 rfl) rfl).trans ?_
    refine (r_aln (dk D100 5 rfl) rfl).trans ?_
    refine (r_getI (dk D100 6 rfl) ow100 q10_129 ob_11).trans ?_
    refine (r_ge (dk D100 7 rfl) rfl).trans (ite2 ?_ ?_)
    · refine (r_ic (dk D100 8 rfl) ci1).trans ?_
      refine (r_goto (L' := [.ref 11, .int l1]) (dk D100 9 rfl) rfl nd100_21 rfl).trans ?_
      exact r_rez (dk D100 11 rfl) rt100 (by decide)
    · refine (r_ic (dk D100 10 rfl) ci0).trans ?_
      exact r_rez (dk D100 11 rfl) rt100 (by decide)
set_option maxRecDepth 20000 in
theorem D101 : dOK 101 [(0, .iconst 0, 1), (1, .istore_n 3, 1), (2, .iconst 0, 1), (3, .istore 4, 2), (5, .iload 4, 2), (7, .aload_n 0, 1), (8, .getfield 9, 3), (11, .getfield 77, 3), (14, .if_icmp .ge 31, 3), (17, .aload_n 0, 1), (18, .getfield 19, 3), (21, .iload 4, 2), (23, .iaload, 1), (24, .iload_n 1, 1), (25, .if_icmp .ne 14, 3), (28, .iload_n 3, 1), (29, .iload_n 2, 1), (30, .if_icmp .ne 6, 3), (33, .iload 4, 2), (35, .ireturn, 1), (36, .iinc 3 1, 3), (39, .iinc 4 1, 3), (42, .goto (-37), 3), (45, .iconst (-1), 1), (46, .ireturn, 1)] = true := by decide +kernel
theorem E101_0 {d sl : Nat} {p : Nat → Nat} {I : Nat → Nat → Int32} {J : Nat → Nat → Int64} (a1 : Int32) (a2 : Int32)  : den d 101 [.ref 11, .int a1, .int a2] (S sl p I J) = ev d 101 5 [.ref 11, .int a1, .int a2, .int 0, .int 0] [] (S sl p I J) := by
  refine (show den d 101 [.ref 11, .int a1, .int a2] (S sl p I J) = ev d 101 0 [.ref 11, .int a1, .int a2, .retAddr 0, .retAddr 0] [] (S sl p I J) from rfl).trans ?_
  refine (r_ic (dk D101 0 rfl) ci0).trans ?_
  refine (r_isn (L' := [.ref 11, .int a1, .int a2, .int 0, .retAddr 0]) (dk D101 1 rfl) (Nat.le_of_ble_eq_true rfl) rfl).trans ?_
  refine (r_ic (dk D101 2 rfl) ci0).trans ?_
  refine (r_is (L' := [.ref 11, .int a1, .int a2, .int 0, .int 0]) (dk D101 3 rfl) (Nat.le_of_ble_eq_true rfl) rfl).trans ?_
  exact rfl
theorem E101_5 {d sl : Nat} {p : Nat → Nat} {I : Nat → Nat → Int32} {J : Nat → Nat → Int64} (l1 : Int32) (l2 : Int32) (l3 : Int32) (l4 : Int32)  : ev d 101 5 [.ref 11, .int l1, .int l2, .int l3, .int l4] [] (S sl p I J) = (if l4 < (I 4 8) then ck (ixb 60 l4) ((if (I 12 (Int32.toNatClampNeg l4)) = l1 then (if l3 = l2 then some (some (.int l4), (S sl p I J)) else ev d 101 5 [.ref 11, .int l1, .int l2, .int (l3 + 1), .int (l4 + 1)] [] (S sl p I J)) else ev d 101 5 [.ref 11, .int l1, .int l2, .int l3, .int (l4 + 1)] [] (S sl p I J))) else some (some (.int (-1)), (S sl p I J))) := by
  refine (r_il (dk D101 4 rfl) rfl).trans ?_
  refine (r_aln (dk D101 5 rfl) rfl).trans ?_
  refine (r_getR (dk D101 6 rfl) ow101 q10_9 ob_11 rfl).trans ?_
  refine (r_getI (dk D101 7 rfl) ow101 q10_77 ob_4).trans ?_
  refine (r_ge (dk D101 8 rfl) rfl).trans (ite2 ?_ ?_)
  · refine (r_aln (dk D101 9 rfl) rfl).trans ?_
    refine (r_getR (dk D101 10 rfl) ow101 q10_19 ob_11 rfl).trans ?_
    refine (r_il (dk D101 11 rfl) rfl).trans ?_
    refine (r_ild (dk D101 12 rfl) ar_12).trans (ck3 fun g1 => ?_)
    refine (r_iln (dk D101 13 rfl) rfl).trans ?_
    refine (r_ne (dk D101 14 rfl) rfl).trans (ite2 ?_ ?_)
    · refine (r_iln (dk D101 15 rfl) rfl).trans ?_
      refine (r_iln (dk D101 16 rfl) rfl).trans ?_
      refine (r_ne (dk D101 17 rfl) rfl).trans (ite2 ?_ ?_)
      · refine (r_il (dk D101 18 rfl) rfl).trans ?_
        exact r_ret (dk D101 19 rfl) rt101
      · refine (r_inc (L' := [.ref 11, .int l1, .int l2, .int (l3 + 1), .int l4]) (dk D101 20 rfl) rfl rfl ci1 (Nat.le_of_ble_eq_true rfl) rfl).trans ?_
        refine (r_inc (L' := [.ref 11, .int l1, .int l2, .int (l3 + 1), .int (l4 + 1)]) (dk D101 21 rfl) rfl rfl ci1 (Nat.le_of_ble_eq_true rfl) rfl).trans ?_
        refine (r_goto (L' := [.ref 11, .int l1, .int l2, .int (l3 + 1), .int (l4 + 1)]) (dk D101 22 rfl) rfl nd101_5 rfl).trans ?_
        exact rfl
    · refine (r_inc (L' := [.ref 11, .int l1, .int l2, .int l3, .int (l4 + 1)]) (dk D101 21 rfl) rfl rfl ci1 (Nat.le_of_ble_eq_true rfl) rfl).trans ?_
      refine (r_goto (L' := [.ref 11, .int l1, .int l2, .int l3, .int (l4 + 1)]) (dk D101 22 rfl) rfl nd101_5 rfl).trans ?_
      exact rfl
  · refine (r_ic (dk D101 23 rfl) cim1).trans ?_
    exact r_ret (dk D101 24 rfl) rt101
set_option maxRecDepth 20000 in
theorem D102 : dOK 102 [(0, .iconst 0, 1), (1, .istore_n 1, 1), (2, .iconst 0, 1), (3, .istore_n 2, 1), (4, .iload_n 2, 1), (5, .aload_n 0, 1), (6, .getfield 9, 3), (9, .getfield 77, 3), (12, .if_icmp .ge 22, 3), (15, .aload_n 0, 1), (16, .getfield 19, 3), (19, .iload_n 2, 1), (20, .iaload, 1), (21, .iconst (-1), 1), (22, .if_icmp .ne 6, 3), (25, .iinc 1 1, 3), (28, .iinc 2 1, 3), (31, .goto (-27), 3), (34, .iload_n 1, 1), (35, .ireturn, 1)] = true := by decide +kernel
theorem E102_0 {d sl : Nat} {p : Nat → Nat} {I : Nat → Nat → Int32} {J : Nat → Nat → Int64}   : den d 102 [.ref 11] (S sl p I J) = ev d 102 4 [.ref 11, .int 0, .int 0] [] (S sl p I J) := by
  refine (show den d 102 [.ref 11] (S sl p I J) = ev d 102 0 [.ref 11, .retAddr 0, .retAddr 0] [] (S sl p I J) from rfl).trans ?_
  refine (r_ic (dk D102 0 rfl) ci0).trans ?_
  refine (r_isn (L' := [.ref 11, .int 0, .retAddr 0]) (dk D102 1 rfl) (Nat.le_of_ble_eq_true rfl) rfl).trans ?_
  refine (r_ic (dk D102 2 rfl) ci0).trans ?_
  refine (r_isn (L' := [.ref 11, .int 0, .int 0]) (dk D102 3 rfl) (Nat.le_of_ble_eq_true rfl) rfl).trans ?_
  exact rfl
theorem E102_4 {d sl : Nat} {p : Nat → Nat} {I : Nat → Nat → Int32} {J : Nat → Nat → Int64} (l1 : Int32) (l2 : Int32)  : ev d 102 4 [.ref 11, .int l1, .int l2] [] (S sl p I J) = (if l2 < (I 4 8) then ck (ixb 60 l2) ((if (I 12 (Int32.toNatClampNeg l2)) = (-1) then ev d 102 4 [.ref 11, .int (l1 + 1), .int (l2 + 1)] [] (S sl p I J) else ev d 102 4 [.ref 11, .int l1, .int (l2 + 1)] [] (S sl p I J))) else some (some (.int l1), (S sl p I J))) := by
  refine (r_iln (dk D102 4 rfl) rfl).trans ?_
  refine (r_aln (dk D102 5 rfl) rfl).trans ?_
  refine (r_getR (dk D102 6 rfl) ow102 q10_9 ob_11 rfl).trans ?_
  refine (r_getI (dk D102 7 rfl) ow102 q10_77 ob_4).trans ?_
  refine (r_ge (dk D102 8 rfl) rfl).trans (ite2 ?_ ?_)
  · refine (r_aln (dk D102 9 rfl) rfl).trans ?_
    refine (r_getR (dk D102 10 rfl) ow102 q10_19 ob_11 rfl).trans ?_
    refine (r_iln (dk D102 11 rfl) rfl).trans ?_
    refine (r_ild (dk D102 12 rfl) ar_12).trans (ck3 fun g1 => ?_)
    refine (r_ic (dk D102 13 rfl) cim1).trans ?_
    refine (r_ne (dk D102 14 rfl) rfl).trans (ite2 ?_ ?_)
    · refine (r_inc (L' := [.ref 11, .int (l1 + 1), .int l2]) (dk D102 15 rfl) rfl rfl ci1 (Nat.le_of_ble_eq_true rfl) rfl).trans ?_
      refine (r_inc (L' := [.ref 11, .int (l1 + 1), .int (l2 + 1)]) (dk D102 16 rfl) rfl rfl ci1 (Nat.le_of_ble_eq_true rfl) rfl).trans ?_
      refine (r_goto (L' := [.ref 11, .int (l1 + 1), .int (l2 + 1)]) (dk D102 17 rfl) rfl nd102_4 rfl).trans ?_
      exact rfl
    · refine (r_inc (L' := [.ref 11, .int l1, .int (l2 + 1)]) (dk D102 16 rfl) rfl rfl ci1 (Nat.le_of_ble_eq_true rfl) rfl).trans ?_
      refine (r_goto (L' := [.ref 11, .int l1, .int (l2 + 1)]) (dk D102 17 rfl) rfl nd102_4 rfl).trans ?_
      exact rfl
  · refine (r_iln (dk D102 18 rfl) rfl).trans ?_
    exact r_ret (dk D102 19 rfl) rt102
set_option maxRecDepth 20000 in
theorem D103 : dOK 103 [(0, .bipush 17, 2), (2, .istore_n 1, 1), (3, .iconst 0, 1), (4, .istore_n 2, 1), (5, .iload_n 2, 1), (6, .aload_n 0, 1), (7, .getfield 129, 3), (10, .if_icmp .ge 39, 3), (13, .iload_n 1, 1), (14, .bipush 31, 2), (16, .imul, 1), (17, .aload_n 0, 1), (18, .getfield 25, 3), (21, .iload_n 2, 1), (22, .aaload, 1), (23, .getfield 152, 3), (26, .iadd, 1), (27, .istore_n 1, 1), (28, .iload_n 1, 1), (29, .bipush 31, 2), (31, .imul, 1), (32, .aload_n 0, 1), (33, .getfield 25, 3), (36, .iload_n 2, 1), (37, .aaload, 1), (38, .getfield 122, 3), (41, .iadd, 1), (42, .istore_n 1, 1), (43, .iinc 2 1, 3), (46, .goto (-41), 3), (49, .iload_n 1, 1), (50, .bipush 31, 2), (52, .imul, 1), (53, .aload_n 0, 1), (54, .invokevirtual 155, 3), (57, .iadd, 1), (58, .ireturn, 1)] = true := by decide +kernel
theorem E103_0 {d sl : Nat} {p : Nat → Nat} {I : Nat → Nat → Int32} {J : Nat → Nat → Int64}   : den d 103 [.ref 11] (S sl p I J) = ev d 103 5 [.ref 11, .int 17, .int 0] [] (S sl p I J) := by
  refine (show den d 103 [.ref 11] (S sl p I J) = ev d 103 0 [.ref 11, .retAddr 0, .retAddr 0] [] (S sl p I J) from rfl).trans ?_
  refine (r_bp (dk D103 0 rfl) cb17).trans ?_
  refine (r_isn (L' := [.ref 11, .int 17, .retAddr 0]) (dk D103 1 rfl) (Nat.le_of_ble_eq_true rfl) rfl).trans ?_
  refine (r_ic (dk D103 2 rfl) ci0).trans ?_
  refine (r_isn (L' := [.ref 11, .int 17, .int 0]) (dk D103 3 rfl) (Nat.le_of_ble_eq_true rfl) rfl).trans ?_
  exact rfl
theorem E103_5 {d sl : Nat} {p : Nat → Nat} {I : Nat → Nat → Int32} {J : Nat → Nat → Int64} (l1 : Int32) (l2 : Int32)  : ev (d + 1) 103 5 [.ref 11, .int l1, .int l2] [] (S sl p I J) = (if l2 < (I 11 14) then ck (ixb 30 l2) (ck (ixb 30 l2) (ev (d + 1) 103 5 [.ref 11, .int ((((l1 * 31) + (I (400 + (Int32.toNatClampNeg l2)) 4)) * 31) + (I (400 + (Int32.toNatClampNeg l2)) 3)), .int (l2 + 1)] [] (S sl p I J))) else evK (d + 1) 103 57 [.ref 11, .int l1, .int l2] [.int (l1 * 31)] (den d 102 [.ref 11] (S sl p I J))) := by
  refine (r_iln (dk D103 4 rfl) rfl).trans ?_
  refine (r_aln (dk D103 5 rfl) rfl).trans ?_
  refine (r_getI (dk D103 6 rfl) ow103 q10_129 ob_11).trans ?_
  refine (r_ge (dk D103 7 rfl) rfl).trans (ite2 ?_ ?_)
  · refine (r_iln (dk D103 8 rfl) rfl).trans ?_
    refine (r_bp (dk D103 9 rfl) cb31).trans ?_
    refine (r_imul (dk D103 10 rfl)).trans ?_
    refine (r_aln (dk D103 11 rfl) rfl).trans ?_
    refine (r_getR (dk D103 12 rfl) ow103 q10_25 ob_11 rfl).trans ?_
    refine (r_iln (dk D103 13 rfl) rfl).trans ?_
    refine (r_ald (dk D103 14 rfl) ar_13 (by decide) rfA13).trans (ck3 fun g1 => ?_)
    refine (r_getI (dk D103 15 rfl) ow103 q10_152 (obG (ixb_lt g1))).trans ?_
    refine (r_iadd (dk D103 16 rfl)).trans ?_
    refine (r_isn (L' := [.ref 11, .int ((l1 * 31) + (I (400 + (Int32.toNatClampNeg l2)) 4)), .int l2]) (dk D103 17 rfl) (Nat.le_of_ble_eq_true rfl) rfl).trans ?_
    refine (r_iln (dk D103 18 rfl) rfl).trans ?_
    refine (r_bp (dk D103 19 rfl) cb31).trans ?_
    refine (r_imul (dk D103 20 rfl)).trans ?_
    refine (r_aln (dk D103 21 rfl) rfl).trans ?_
    refine (r_getR (dk D103 22 rfl) ow103 q10_25 ob_11 rfl).trans ?_
    refine (r_iln (dk D103 23 rfl) rfl).trans ?_
    refine (r_ald (dk D103 24 rfl) ar_13 (by decide) rfA13).trans (ck3 fun g2 => ?_)
    refine (r_getI (dk D103 25 rfl) ow103 q10_122 (obG (ixb_lt g2))).trans ?_
    refine (r_iadd (dk D103 26 rfl)).trans ?_
    refine (r_isn (L' := [.ref 11, .int ((((l1 * 31) + (I (400 + (Int32.toNatClampNeg l2)) 4)) * 31) + (I (400 + (Int32.toNatClampNeg l2)) 3)), .int l2]) (dk D103 27 rfl) (Nat.le_of_ble_eq_true rfl) rfl).trans ?_
    refine (r_inc (L' := [.ref 11, .int ((((l1 * 31) + (I (400 + (Int32.toNatClampNeg l2)) 4)) * 31) + (I (400 + (Int32.toNatClampNeg l2)) 3)), .int (l2 + 1)]) (dk D103 28 rfl) rfl rfl ci1 (Nat.le_of_ble_eq_true rfl) rfl).trans ?_
    refine (r_goto (L' := [.ref 11, .int ((((l1 * 31) + (I (400 + (Int32.toNatClampNeg l2)) 4)) * 31) + (I (400 + (Int32.toNatClampNeg l2)) 3)), .int (l2 + 1)]) (dk D103 29 rfl) rfl nd103_5 rfl).trans ?_
    exact rfl
  · refine (r_iln (dk D103 30 rfl) rfl).trans ?_
    refine (r_bp (dk D103 31 rfl) cb31).trans ?_
    refine (r_imul (dk D103 32 rfl)).trans ?_
    refine (r_aln (dk D103 33 rfl) rfl).trans ?_
    exact r_cv (dk D103 34 rfl) ow103 c10_155 mf102 (Nat.le_of_ble_eq_true rfl) rfl rfl (Nat.le_of_ble_eq_true rfl) (Nat.le_of_ble_eq_true rfl) ob_11
theorem E103_57 {d sl : Nat} {p : Nat → Nat} {I : Nat → Nat → Int32} {J : Nat → Nat → Int64} (l1 : Int32) (l2 : Int32) (s0 : Int32) (s1 : Int32)  : ev d 103 57 [.ref 11, .int l1, .int l2] [.int s0, .int s1] (S sl p I J) = some (some (.int (s1 + s0)), (S sl p I J)) := by
  refine (r_iadd (dk D103 35 rfl)).trans ?_
  exact r_ret (dk D103 36 rfl) rt103
set_option maxRecDepth 20000 in
theorem D104 : dOK 104 [(0, .aload_n 0, 1), (1, .invokevirtual 149, 3), (4, .iconst 0, 1), (5, .istore_n 1, 1), (6, .iload_n 1, 1), (7, .aload_n 0, 1), (8, .getfield 129, 3), (11, .if_icmp .ge 15, 3), (14, .aload_n 0, 1), (15, .iload_n 1, 1), (16, .invokevirtual 159, 3), (19, .pop, 1), (20, .iinc 1 1, 3), (23, .goto (-17), 3), (26, .return_, 1)] = true := by decide +kernel
theorem E104_0 {d sl : Nat} {p : Nat → Nat} {I : Nat → Nat → Int32} {J : Nat → Nat → Int64}   : den (d + 1) 104 [.ref 11] (S sl p I J) = evK (d + 1) 104 4 [.ref 11, .retAddr 0] [] (den d 97 [.ref 11] (S sl p I J)) := by
  refine (show den (d + 1) 104 [.ref 11] (S sl p I J) = ev (d + 1) 104 0 [.ref 11, .retAddr 0] [] (S sl p I J) from rfl).trans ?_
  refine (r_aln (dk D104 0 rfl) rfl).trans ?_
  exact r_cv (dk D104 1 rfl) ow104 c10_149 mf97 (Nat.le_of_ble_eq_true rfl) rfl rfl (Nat.le_of_ble_eq_true rfl) (Nat.le_of_ble_eq_true rfl) ob_11
theorem E104_4 {d sl : Nat} {p : Nat → Nat} {I : Nat → Nat → Int32} {J : Nat → Nat → Int64}   : ev d 104 4 [.ref 11, .retAddr 0] [] (S sl p I J) = ev d 104 6 [.ref 11, .int 0] [] (S sl p I J) := by
  refine (r_ic (dk D104 2 rfl) ci0).trans ?_
  refine (r_isn (L' := [.ref 11, .int 0]) (dk D104 3 rfl) (Nat.le_of_ble_eq_true rfl) rfl).trans ?_
  exact rfl
theorem E104_6 {d sl : Nat} {p : Nat → Nat} {I : Nat → Nat → Int32} {J : Nat → Nat → Int64} (l1 : Int32)  : ev (d + 1) 104 6 [.ref 11, .int l1] [] (S sl p I J) = (if l1 < (I 11 14) then evK (d + 1) 104 19 [.ref 11, .int l1] [] (den d 105 [.ref 11, .int l1] (S sl p I J)) else some (none, (S sl p I J))) := by
  refine (r_iln (dk D104 4 rfl) rfl).trans ?_
  refine (r_aln (dk D104 5 rfl) rfl).trans ?_
  refine (r_getI (dk D104 6 rfl) ow104 q10_129 ob_11).trans ?_
  refine (r_ge (dk D104 7 rfl) rfl).trans (ite2 ?_ ?_)
  · refine (r_aln (dk D104 8 rfl) rfl).trans ?_
    refine (r_iln (dk D104 9 rfl) rfl).trans ?_
    exact r_cv (dk D104 10 rfl) ow104 c10_159 mf105 (Nat.le_of_ble_eq_true rfl) rfl rfl (Nat.le_of_ble_eq_true rfl) (Nat.le_of_ble_eq_true rfl) ob_11
  · exact r_rev (dk D104 14 rfl) rt104
theorem E104_19 {d sl : Nat} {p : Nat → Nat} {I : Nat → Nat → Int32} {J : Nat → Nat → Int64} (l1 : Int32) {s0 : Nat} (hs0 : s0 < 30) : ev d 104 19 [.ref 11, .int l1] [.ref (400 + s0)] (S sl p I J) = ev d 104 6 [.ref 11, .int (l1 + 1)] [] (S sl p I J) := by
  refine (r_pop (dk D104 11 rfl) rfl).trans ?_
  refine (r_inc (L' := [.ref 11, .int (l1 + 1)]) (dk D104 12 rfl) rfl rfl ci1 (Nat.le_of_ble_eq_true rfl) rfl).trans ?_
  refine (r_goto (L' := [.ref 11, .int (l1 + 1)]) (dk D104 13 rfl) rfl nd104_6 rfl).trans ?_
  exact rfl
set_option maxRecDepth 20000 in
theorem D105 : dOK 105 [(0, .aload_n 0, 1), (1, .getfield 25, 3), (4, .iload_n 1, 1), (5, .aaload, 1), (6, .astore_n 2, 1), (7, .aload_n 2, 1), (8, .getfield 163, 3), (11, .ifCond .ne 14, 3), (14, .aload_n 0, 1), (15, .iload_n 1, 1), (16, .aload_n 2, 1), (17, .invokevirtual 166, 3), (20, .aload_n 2, 1), (21, .iconst 1, 1), (22, .putfield 163, 3), (25, .aload_n 2, 1), (26, .areturn, 1)] = true := by decide +kernel
theorem E105_0 {d sl : Nat} {p : Nat → Nat} {I : Nat → Nat → Int32} {J : Nat → Nat → Int64} (a1 : Int32)  : den (d + 1) 105 [.ref 11, .int a1] (S sl p I J) = ck (ixb 30 a1) ((if (I (400 + (Int32.toNatClampNeg a1)) 5) = 0 then evK (d + 1) 105 20 [.ref 11, .int a1, .ref (400 + (Int32.toNatClampNeg a1))] [] (den d 106 [.ref 11, .int a1, .ref (400 + (Int32.toNatClampNeg a1))] (S sl p I J)) else some (some (.ref (400 + (Int32.toNatClampNeg a1))), (S sl p I J)))) := by
  refine (show den (d + 1) 105 [.ref 11, .int a1] (S sl p I J) = ev (d + 1) 105 0 [.ref 11, .int a1, .retAddr 0] [] (S sl p I J) from rfl).trans ?_
  refine (r_aln (dk D105 0 rfl) rfl).trans ?_
  refine (r_getR (dk D105 1 rfl) ow105 q10_25 ob_11 rfl).trans ?_
  refine (r_iln (dk D105 2 rfl) rfl).trans ?_
  refine (r_ald (dk D105 3 rfl) ar_13 (by decide) rfA13).trans (ck3 fun g1 => ?_)
  refine (r_asn (L' := [.ref 11, .int a1, .ref (400 + (Int32.toNatClampNeg a1))]) (dk D105 4 rfl) (Nat.le_of_ble_eq_true rfl) rfl).trans ?_
  refine (r_aln (dk D105 5 rfl) rfl).trans ?_
  refine (r_getI (dk D105 6 rfl) ow105 q10_163 (obG (ixb_lt g1))).trans ?_
  refine (r_ne0 (dk D105 7 rfl) rfl).trans (ite2 ?_ ?_)
  · refine (r_aln (dk D105 8 rfl) rfl).trans ?_
    refine (r_iln (dk D105 9 rfl) rfl).trans ?_
    refine (r_aln (dk D105 10 rfl) rfl).trans ?_
    exact r_cv (dk D105 11 rfl) ow105 c10_166 mf106 (Nat.le_of_ble_eq_true rfl) rfl rfl (Nat.le_of_ble_eq_true rfl) (Nat.le_of_ble_eq_true rfl) ob_11
  · refine (r_aln (dk D105 15 rfl) rfl).trans ?_
    exact r_rea (dk D105 16 rfl) rt105
theorem E105_20 {d sl : Nat} {p : Nat → Nat} {I : Nat → Nat → Int32} {J : Nat → Nat → Int64} (l1 : Int32) {l2 : Nat} (hl2 : l2 < 30) : ev d 105 20 [.ref 11, .int l1, .ref (400 + l2)] [] (S sl p I J) = some (some (.ref (400 + l2)), (S sl p (up2 I (400 + l2) 5 1) J)) := by
  refine (r_aln (dk D105 12 rfl) rfl).trans ?_
  refine (r_ic (dk D105 13 rfl) ci1).trans ?_
  refine (r_putZ (dk D105 14 rfl) ow105 w10_163 (obG hl2) (by decide)).trans ?_
  refine (r_aln (dk D105 15 rfl) rfl).trans ?_
  exact r_rea (dk D105 16 rfl) rt105
set_option maxRecDepth 20000 in
theorem D106 : dOK 106 [(0, .aload_n 0, 1), (1, .iload_n 1, 1), (2, .aload_n 2, 1), (3, .invokevirtual 170, 3), (6, .aload_n 2, 1), (7, .getfield 173, 3), (10, .invokevirtual 177, 3), (13, .iconst 0, 1), (14, .istore_n 3, 1), (15, .iload_n 3, 1), (16, .aload_n 0, 1), (17, .getfield 9, 3), (20, .getfield 77, 3), (23, .if_icmp .ge 54, 3), (26, .aload_n 0, 1), (27, .getfield 19, 3), (30, .iload_n 3, 1), (31, .iaload, 1), (32, .iload_n 1, 1), (33, .if_icmp .ne 38, 3), (36, .aload_n 2, 1), (37, .getfield 173, 3), (40, .aload_n 0, 1), (41, .getfield 9, 3), (44, .getfield 137, 3), (47, .iload_n 3, 1), (48, .aaload, 1), (49, .getfield 182, 3), (52, .aload_n 0, 1), (53, .getfield 9, 3), (56, .getfield 137, 3), (59, .iload_n 3, 1), (60, .aaload, 1), (61, .getfield 185, 3), (64, .aload_n 2, 1), (65, .getfield 188, 3), (68, .invokevirtual 191, 3), (71, .iinc 3 1, 3), (74, .goto (-59), 3), (77, .aload_n 2, 1), (78, .getfield 36, 3), (81, .aload_n 2, 1), (82, .getfield 188, 3), (85, .invokevirtual 195, 3), (88, .aload_n 2, 1), (89, .getfield 173, 3), (92, .aload_n 2, 1), (93, .getfield 36, 3), (96, .invokevirtual 199, 3), (99, .aload_n 0, 1), (100, .getfield 15, 3), (103, .aload_n 2, 1), (104, .getfield 36, 3), (107, .invokevirtual 202, 3), (110, .istore_n 3, 1), (111, .aload_n 2, 1), (112, .iload_n 3, 1), (113, .bipush 100, 2), (115, .idiv, 1), (116, .putfield 208, 3), (119, .aload_n 2, 1), (120, .iload_n 3, 1), (121, .bipush 100, 2), (123, .irem, 1), (124, .putfield 211, 3), (127, .aload_n 0, 1), (128, .iload_n 1, 1), (129, .aload_n 2, 1), (130, .invokevirtual 214, 3), (133, .return_, 1)] = true := by decide +kernel
theorem E106_0 {d sl : Nat} {p : Nat → Nat} {I : Nat → Nat → Int32} {J : Nat → Nat → Int64} (a1 : Int32) {a2 : Nat} (h2 : a2 < 30) : den (d + 1) 106 [.ref 11, .int a1, .ref (400 + a2)] (S sl p I J) = evK (d + 1) 106 6 [.ref 11, .int a1, .ref (400 + a2), .retAddr 0] [] (den d 107 [.ref 11, .int a1, .ref (400 + a2)] (S sl p I J)) := by
  refine (show den (d + 1) 106 [.ref 11, .int a1, .ref (400 + a2)] (S sl p I J) = ev (d + 1) 106 0 [.ref 11, .int a1, .ref (400 + a2), .retAddr 0] [] (S sl p I J) from rfl).trans ?_
  refine (r_aln (dk D106 0 rfl) rfl).trans ?_
  refine (r_iln (dk D106 1 rfl) rfl).trans ?_
  refine (r_aln (dk D106 2 rfl) rfl).trans ?_
  exact r_cv (dk D106 3 rfl) ow106 c10_170 mf107 (Nat.le_of_ble_eq_true rfl) rfl rfl (Nat.le_of_ble_eq_true rfl) (Nat.le_of_ble_eq_true rfl) ob_11
theorem E106_6 {d sl : Nat} {p : Nat → Nat} {I : Nat → Nat → Int32} {J : Nat → Nat → Int64} (l1 : Int32) {l2 : Nat} (hl2 : l2 < 30) : ev (d + 1) 106 6 [.ref 11, .int l1, .ref (400 + l2), .retAddr 0] [] (S sl p I J) = evK (d + 1) 106 13 [.ref 11, .int l1, .ref (400 + l2), .retAddr 0] [] (den d 16 [.ref (500 + l2)] (S sl p I J)) := by
  refine (r_aln (dk D106 4 rfl) rfl).trans ?_
  refine (r_getR (dk D106 5 rfl) ow106 q10_173 (obG hl2) (rfG0 hl2)).trans ?_
  exact r_cv (dk D106 6 rfl) ow106 c10_177 mf16 (Nat.le_of_ble_eq_true rfl) rfl rfl (Nat.le_of_ble_eq_true rfl) (Nat.le_of_ble_eq_true rfl) (ob500 hl2)
theorem E106_13 {d sl : Nat} {p : Nat → Nat} {I : Nat → Nat → Int32} {J : Nat → Nat → Int64} (l1 : Int32) {l2 : Nat} (hl2 : l2 < 30) : ev d 106 13 [.ref 11, .int l1, .ref (400 + l2), .retAddr 0] [] (S sl p I J) = ev d 106 15 [.ref 11, .int l1, .ref (400 + l2), .int 0] [] (S sl p I J) := by
  refine (r_ic (dk D106 7 rfl) ci0).trans ?_
  refine (r_isn (L' := [.ref 11, .int l1, .ref (400 + l2), .int 0]) (dk D106 8 rfl) (Nat.le_of_ble_eq_true rfl) rfl).trans ?_
  exact rfl
theorem E106_15 {d sl : Nat} {p : Nat → Nat} {I : Nat → Nat → Int32} {J : Nat → Nat → Int64} (l1 : Int32) {l2 : Nat} (l3 : Int32) (hp : ∀ k, p k < 60) (hl2 : l2 < 30) : ev (d + 1) 106 15 [.ref 11, .int l1, .ref (400 + l2), .int l3] [] (S sl p I J) = (if l3 < (I 4 8) then ck (ixb 60 l3) ((if (I 12 (Int32.toNatClampNeg l3)) = l1 then ck (ixb 60 l3) (ck (ixb 60 l3) (evK (d + 1) 106 71 [.ref 11, .int l1, .ref (400 + l2), .int l3] [] (den d 17 [.ref (500 + l2), .int (I (200 + p (Int32.toNatClampNeg l3)) 8), .ref (300 + p (Int32.toNatClampNeg l3)), .ref (700 + l2)] (S sl p I J)))) else ev (d + 1) 106 15 [.ref 11, .int l1, .ref (400 + l2), .int (l3 + 1)] [] (S sl p I J))) else evK (d + 1) 106 88 [.ref 11, .int l1, .ref (400 + l2), .int l3] [] (den d 2 [.ref (800 + l2), .ref (700 + l2)] (S sl p I J))) := by
  refine (r_iln (dk D106 9 rfl) rfl).trans ?_
  refine (r_aln (dk D106 10 rfl) rfl).trans ?_
  refine (r_getR (dk D106 11 rfl) ow106 q10_9 ob_11 rfl).trans ?_
  refine (r_getI (dk D106 12 rfl) ow106 q10_77 ob_4).trans ?_
  refine (r_ge (dk D106 13 rfl) rfl).trans (ite2 ?_ ?_)
  · refine (r_aln (dk D106 14 rfl) rfl).trans ?_
    refine (r_getR (dk D106 15 rfl) ow106 q10_19 ob_11 rfl).trans ?_
    refine (r_iln (dk D106 16 rfl) rfl).trans ?_
    refine (r_ild (dk D106 17 rfl) ar_12).trans (ck3 fun g1 => ?_)
    refine (r_iln (dk D106 18 rfl) rfl).trans ?_
    refine (r_ne (dk D106 19 rfl) rfl).trans (ite2 ?_ ?_)
    · refine (r_aln (dk D106 20 rfl) rfl).trans ?_
      refine (r_getR (dk D106 21 rfl) ow106 q10_173 (obG hl2) (rfG0 hl2)).trans ?_
      refine (r_aln (dk D106 22 rfl) rfl).trans ?_
      refine (r_getR (dk D106 23 rfl) ow106 q10_9 ob_11 rfl).trans ?_
      refine (r_getR (dk D106 24 rfl) ow106 q10_137 ob_4 rfl).trans ?_
      refine (r_iln (dk D106 25 rfl) rfl).trans ?_
      refine (r_ald (dk D106 26 rfl) ar_9 (by decide) rfA9).trans (ck3 fun g2 => ?_)
      refine (r_getI (dk D106 27 rfl) ow106 q10_182 (obC (hp (Int32.toNatClampNeg l3)))).trans ?_
      refine (r_aln (dk D106 28 rfl) rfl).trans ?_
      refine (r_getR (dk D106 29 rfl) ow106 q10_9 ob_11 rfl).trans ?_
      refine (r_getR (dk D106 30 rfl) ow106 q10_137 ob_4 rfl).trans ?_
      refine (r_iln (dk D106 31 rfl) rfl).trans ?_
      refine (r_ald (dk D106 32 rfl) ar_9 (by decide) rfA9).trans (ck3 fun g3 => ?_)
      refine (r_getR (dk D106 33 rfl) ow106 q10_185 (obC (hp (Int32.toNatClampNeg l3))) (rfC (hp (Int32.toNatClampNeg l3)))).trans ?_
      refine (r_aln (dk D106 34 rfl) rfl).trans ?_
      refine (r_getR (dk D106 35 rfl) ow106 q10_188 (obG hl2) (rfG1 hl2)).trans ?_
      exact r_cv (dk D106 36 rfl) ow106 c10_191 mf17 (Nat.le_of_ble_eq_true rfl) rfl rfl (Nat.le_of_ble_eq_true rfl) (Nat.le_of_ble_eq_true rfl) (ob500 hl2)
    · refine (r_inc (L' := [.ref 11, .int l1, .ref (400 + l2), .int (l3 + 1)]) (dk D106 37 rfl) rfl rfl ci1 (Nat.le_of_ble_eq_true rfl) rfl).trans ?_
      refine (r_goto (L' := [.ref 11, .int l1, .ref (400 + l2), .int (l3 + 1)]) (dk D106 38 rfl) rfl nd106_15 rfl).trans ?_
      exact rfl
  · refine (r_aln (dk D106 39 rfl) rfl).trans ?_
    refine (r_getR (dk D106 40 rfl) ow106 q10_36 (obG hl2) (rfG2 hl2)).trans ?_
    refine (r_aln (dk D106 41 rfl) rfl).trans ?_
    refine (r_getR (dk D106 42 rfl) ow106 q10_188 (obG hl2) (rfG1 hl2)).trans ?_
    exact r_cv (dk D106 43 rfl) ow106 c10_195 mf2 (Nat.le_of_ble_eq_true rfl) rfl rfl (Nat.le_of_ble_eq_true rfl) (Nat.le_of_ble_eq_true rfl) (ob800 hl2)
theorem E106_71 {d sl : Nat} {p : Nat → Nat} {I : Nat → Nat → Int32} {J : Nat → Nat → Int64} (l1 : Int32) {l2 : Nat} (l3 : Int32) (hl2 : l2 < 30) : ev d 106 71 [.ref 11, .int l1, .ref (400 + l2), .int l3] [] (S sl p I J) = ev d 106 15 [.ref 11, .int l1, .ref (400 + l2), .int (l3 + 1)] [] (S sl p I J) := by
  refine (r_inc (L' := [.ref 11, .int l1, .ref (400 + l2), .int (l3 + 1)]) (dk D106 37 rfl) rfl rfl ci1 (Nat.le_of_ble_eq_true rfl) rfl).trans ?_
  refine (r_goto (L' := [.ref 11, .int l1, .ref (400 + l2), .int (l3 + 1)]) (dk D106 38 rfl) rfl nd106_15 rfl).trans ?_
  exact rfl
theorem E106_88 {d sl : Nat} {p : Nat → Nat} {I : Nat → Nat → Int32} {J : Nat → Nat → Int64} (l1 : Int32) {l2 : Nat} (l3 : Int32) (hl2 : l2 < 30) : ev (d + 1) 106 88 [.ref 11, .int l1, .ref (400 + l2), .int l3] [] (S sl p I J) = evK (d + 1) 106 99 [.ref 11, .int l1, .ref (400 + l2), .int l3] [] (den d 20 [.ref (500 + l2), .ref (800 + l2)] (S sl p I J)) := by
  refine (r_aln (dk D106 44 rfl) rfl).trans ?_
  refine (r_getR (dk D106 45 rfl) ow106 q10_173 (obG hl2) (rfG0 hl2)).trans ?_
  refine (r_aln (dk D106 46 rfl) rfl).trans ?_
  refine (r_getR (dk D106 47 rfl) ow106 q10_36 (obG hl2) (rfG2 hl2)).trans ?_
  exact r_cv (dk D106 48 rfl) ow106 c10_199 mf20 (Nat.le_of_ble_eq_true rfl) rfl rfl (Nat.le_of_ble_eq_true rfl) (Nat.le_of_ble_eq_true rfl) (ob500 hl2)
theorem E106_99 {d sl : Nat} {p : Nat → Nat} {I : Nat → Nat → Int32} {J : Nat → Nat → Int64} (l1 : Int32) {l2 : Nat} (l3 : Int32) (hl2 : l2 < 30) : ev (d + 1) 106 99 [.ref 11, .int l1, .ref (400 + l2), .int l3] [] (S sl p I J) = evK (d + 1) 106 110 [.ref 11, .int l1, .ref (400 + l2), .int l3] [] (den d 37 [.ref 2, .ref (800 + l2)] (S sl p I J)) := by
  refine (r_aln (dk D106 49 rfl) rfl).trans ?_
  refine (r_getR (dk D106 50 rfl) ow106 q10_15 ob_11 rfl).trans ?_
  refine (r_aln (dk D106 51 rfl) rfl).trans ?_
  refine (r_getR (dk D106 52 rfl) ow106 q10_36 (obG hl2) (rfG2 hl2)).trans ?_
  exact r_cv (dk D106 53 rfl) ow106 c10_202 mf37 (Nat.le_of_ble_eq_true rfl) rfl rfl (Nat.le_of_ble_eq_true rfl) (Nat.le_of_ble_eq_true rfl) ob_2
theorem E106_110 {d sl : Nat} {p : Nat → Nat} {I : Nat → Nat → Int32} {J : Nat → Nat → Int64} (l1 : Int32) {l2 : Nat} (l3 : Int32) (s0 : Int32) (hl2 : l2 < 30) : ev (d + 1) 106 110 [.ref 11, .int l1, .ref (400 + l2), .int l3] [.int s0] (S sl p I J) = evK (d + 1) 106 133 [.ref 11, .int l1, .ref (400 + l2), .int s0] [] (den d 109 [.ref 11, .int l1, .ref (400 + l2)] (S sl p (up2 (up2 I (400 + l2) 7 (s0 / 100)) (400 + l2) 8 (s0 - s0 / 100 * 100)) J)) := by
  refine (r_isn (L' := [.ref 11, .int l1, .ref (400 + l2), .int s0]) (dk D106 54 rfl) (Nat.le_of_ble_eq_true rfl) rfl).trans ?_
  refine (r_aln (dk D106 55 rfl) rfl).trans ?_
  refine (r_iln (dk D106 56 rfl) rfl).trans ?_
  refine (r_bp (dk D106 57 rfl) cb100).trans ?_
  refine (r_idiv (dk D106 58 rfl) (by decide)).trans ?_
  refine (r_putI (dk D106 59 rfl) ow106 w10_208 (obG hl2)).trans ?_
  refine (r_aln (dk D106 60 rfl) rfl).trans ?_
  refine (r_iln (dk D106 61 rfl) rfl).trans ?_
  refine (r_bp (dk D106 62 rfl) cb100).trans ?_
  refine (r_irem (dk D106 63 rfl) (by decide)).trans ?_
  refine (r_putI (dk D106 64 rfl) ow106 w10_211 (obG hl2)).trans ?_
  refine (r_aln (dk D106 65 rfl) rfl).trans ?_
  refine (r_iln (dk D106 66 rfl) rfl).trans ?_
  refine (r_aln (dk D106 67 rfl) rfl).trans ?_
  exact r_cv (dk D106 68 rfl) ow106 c10_214 mf109 (Nat.le_of_ble_eq_true rfl) rfl rfl (Nat.le_of_ble_eq_true rfl) (Nat.le_of_ble_eq_true rfl) ob_11
theorem E106_133 {d sl : Nat} {p : Nat → Nat} {I : Nat → Nat → Int32} {J : Nat → Nat → Int64} (l1 : Int32) {l2 : Nat} (l3 : Int32) (hl2 : l2 < 30) : ev d 106 133 [.ref 11, .int l1, .ref (400 + l2), .int l3] [] (S sl p I J) = some (none, (S sl p I J)) := by
  exact r_rev (dk D106 69 rfl) rt106
set_option maxRecDepth 20000 in
theorem D107 : dOK 107 [(0, .iconst 0, 1), (1, .istore_n 3, 1), (2, .iconst 0, 1), (3, .istore 4, 2), (5, .iload 4, 2), (7, .aload_n 0, 1), (8, .getfield 9, 3), (11, .getfield 77, 3), (14, .if_icmp .ge 89, 3), (17, .aload_n 0, 1), (18, .getfield 19, 3), (21, .iload 4, 2), (23, .iaload, 1), (24, .iload_n 1, 1), (25, .if_icmp .ne 72, 3), (28, .aload_n 0, 1), (29, .getfield 9, 3), (32, .getfield 137, 3), (35, .iload 4, 2), (37, .aaload, 1), (38, .astore 5, 2), (40, .aload_n 0, 1), (41, .iload_n 1, 1), (42, .iload 4, 2), (44, .invokevirtual 217, 3), (47, .istore 6, 2), (49, .iload 6, 2), (51, .iload_n 3, 1), (52, .if_icmp .gt 21, 3), (55, .iload 6, 2), (57, .iload_n 3, 1), (58, .if_icmp .ne 39, 3), (61, .aload 5, 2), (63, .getfield 141, 3), (66, .aload_n 2, 1), (67, .getfield 220, 3), (70, .if_icmp .ge 27, 3), (73, .iload 6, 2), (75, .istore_n 3, 1), (76, .aload_n 2, 1), (77, .aload 5, 2), (79, .getfield 141, 3), (82, .putfield 220, 3), (85, .aload_n 2, 1), (86, .getfield 188, 3), (89, .aload 5, 2), (91, .getfield 185, 3), (94, .invokevirtual 195, 3), (97, .iinc 4 1, 3), (100, .goto (-95), 3), (103, .return_, 1)] = true := by decide +kernel
theorem E107_0 {d sl : Nat} {p : Nat → Nat} {I : Nat → Nat → Int32} {J : Nat → Nat → Int64} (a1 : Int32) {a2 : Nat} (h2 : a2 < 30) : den d 107 [.ref 11, .int a1, .ref (400 + a2)] (S sl p I J) = ev d 107 5 [.ref 11, .int a1, .ref (400 + a2), .int 0, .int 0, .retAddr 0, .retAddr 0] [] (S sl p I J) := by
  refine (show den d 107 [.ref 11, .int a1, .ref (400 + a2)] (S sl p I J) = ev d 107 0 [.ref 11, .int a1, .ref (400 + a2), .retAddr 0, .retAddr 0, .retAddr 0, .retAddr 0] [] (S sl p I J) from rfl).trans ?_
  refine (r_ic (dk D107 0 rfl) ci0).trans ?_
  refine (r_isn (L' := [.ref 11, .int a1, .ref (400 + a2), .int 0, .retAddr 0, .retAddr 0, .retAddr 0]) (dk D107 1 rfl) (Nat.le_of_ble_eq_true rfl) rfl).trans ?_
  refine (r_ic (dk D107 2 rfl) ci0).trans ?_
  refine (r_is (L' := [.ref 11, .int a1, .ref (400 + a2), .int 0, .int 0, .retAddr 0, .retAddr 0]) (dk D107 3 rfl) (Nat.le_of_ble_eq_true rfl) rfl).trans ?_
  exact rfl
theorem E107_5 {d sl : Nat} {p : Nat → Nat} {I : Nat → Nat → Int32} {J : Nat → Nat → Int64} (l1 : Int32) {l2 : Nat} (l3 : Int32) (l4 : Int32) (hp : ∀ k, p k < 60) (hl2 : l2 < 30) : ev (d + 1) 107 5 [.ref 11, .int l1, .ref (400 + l2), .int l3, .int l4, .retAddr 0, .retAddr 0] [] (S sl p I J) = (if l4 < (I 4 8) then ck (ixb 60 l4) ((if (I 12 (Int32.toNatClampNeg l4)) = l1 then ck (ixb 60 l4) (evK (d + 1) 107 47 [.ref 11, .int l1, .ref (400 + l2), .int l3, .int l4, .ref (200 + p (Int32.toNatClampNeg l4)), .retAddr 0] [] (den d 108 [.ref 11, .int l1, .int l4] (S sl p I J))) else ev (d + 1) 107 5 [.ref 11, .int l1, .ref (400 + l2), .int l3, .int (l4 + 1), .retAddr 0, .retAddr 0] [] (S sl p I J))) else some (none, (S sl p I J))) := by
  refine (r_il (dk D107 4 rfl) rfl).trans ?_
  refine (r_aln (dk D107 5 rfl) rfl).trans ?_
  refine (r_getR (dk D107 6 rfl) ow107 q10_9 ob_11 rfl).trans ?_
  refine (r_getI (dk D107 7 rfl) ow107 q10_77 ob_4).trans ?_
  refine (r_ge (dk D107 8 rfl) rfl).trans (ite2 ?_ ?_)
  · refine (r_aln (dk D107 9 rfl) rfl).trans ?_
    refine (r_getR (dk D107 10 rfl) ow107 q10_19 ob_11 rfl).trans ?_
    refine (r_il (dk D107 11 rfl) rfl).trans ?_
    refine (r_ild (dk D107 12 rfl) ar_12).trans (ck3 fun g1 => ?_)
    refine (r_iln (dk D107 13 rfl) rfl).trans ?_
    refine (r_ne (dk D107 14 rfl) rfl).trans (ite2 ?_ ?_)
    · refine (r_aln (dk D107 15 rfl) rfl).trans ?_
      refine (r_getR (dk D107 16 rfl) ow107 q10_9 ob_11 rfl).trans ?_
      refine (r_getR (dk D107 17 rfl) ow107 q10_137 ob_4 rfl).trans ?_
      refine (r_il (dk D107 18 rfl) rfl).trans ?_
      refine (r_ald (dk D107 19 rfl) ar_9 (by decide) rfA9).trans (ck3 fun g2 => ?_)
      refine (r_as (L' := [.ref 11, .int l1, .ref (400 + l2), .int l3, .int l4, .ref (200 + p (Int32.toNatClampNeg l4)), .retAddr 0]) (dk D107 20 rfl) (Nat.le_of_ble_eq_true rfl) rfl).trans ?_
      refine (r_aln (dk D107 21 rfl) rfl).trans ?_
      refine (r_iln (dk D107 22 rfl) rfl).trans ?_
      refine (r_il (dk D107 23 rfl) rfl).trans ?_
      exact r_cv (dk D107 24 rfl) ow107 c10_217 mf108 (Nat.le_of_ble_eq_true rfl) rfl rfl (Nat.le_of_ble_eq_true rfl) (Nat.le_of_ble_eq_true rfl) ob_11
    · refine (r_inc (L' := [.ref 11, .int l1, .ref (400 + l2), .int l3, .int (l4 + 1), .retAddr 0, .retAddr 0]) (dk D107 48 rfl) rfl rfl ci1 (Nat.le_of_ble_eq_true rfl) rfl).trans ?_
      refine (r_goto (L' := [.ref 11, .int l1, .ref (400 + l2), .int l3, .int (l4 + 1), .retAddr 0, .retAddr 0]) (dk D107 49 rfl) rfl nd107_5 rfl).trans ?_
      exact rfl
  · exact r_rev (dk D107 50 rfl) rt107
theorem E107_47 {d sl : Nat} {p : Nat → Nat} {I : Nat → Nat → Int32} {J : Nat → Nat → Int64} (l1 : Int32) {l2 : Nat} (l3 : Int32) (l4 : Int32) {l5 : Nat} (s0 : Int32) (hl2 : l2 < 30) (hl5 : l5 < 60) : ev d 107 47 [.ref 11, .int l1, .ref (400 + l2), .int l3, .int l4, .ref (200 + l5), .retAddr 0] [.int s0] (S sl p I J) = (if s0 ≤ l3 then (if s0 = l3 then (if (I (200 + l5) 7) < (I (400 + l2) 6) then ev d 107 73 [.ref 11, .int l1, .ref (400 + l2), .int l3, .int l4, .ref (200 + l5), .int s0] [] (S sl p I J) else ev d 107 5 [.ref 11, .int l1, .ref (400 + l2), .int l3, .int (l4 + 1), .retAddr 0, .retAddr 0] [] (S sl p I J)) else ev d 107 5 [.ref 11, .int l1, .ref (400 + l2), .int l3, .int (l4 + 1), .retAddr 0, .retAddr 0] [] (S sl p I J)) else ev d 107 73 [.ref 11, .int l1, .ref (400 + l2), .int l3, .int l4, .ref (200 + l5), .int s0] [] (S sl p I J)) := by
  refine (r_is (L' := [.ref 11, .int l1, .ref (400 + l2), .int l3, .int l4, .ref (200 + l5), .int s0]) (dk D107 25 rfl) (Nat.le_of_ble_eq_true rfl) rfl).trans ?_
  refine (r_il (dk D107 26 rfl) rfl).trans ?_
  refine (r_iln (dk D107 27 rfl) rfl).trans ?_
  refine (r_gt (dk D107 28 rfl) rfl).trans (ite2 ?_ ?_)
  · refine (r_il (dk D107 29 rfl) rfl).trans ?_
    refine (r_iln (dk D107 30 rfl) rfl).trans ?_
    refine (r_ne (dk D107 31 rfl) rfl).trans (ite2 ?_ ?_)
    · refine (r_al (dk D107 32 rfl) rfl).trans ?_
      refine (r_getI (dk D107 33 rfl) ow107 q10_141 (obC hl5)).trans ?_
      refine (r_aln (dk D107 34 rfl) rfl).trans ?_
      refine (r_getI (dk D107 35 rfl) ow107 q10_220 (obG hl2)).trans ?_
      refine (r_ge (dk D107 36 rfl) rfl).trans (ite2 ?_ ?_)
      · exact rfl
      · refine (r_inc (L' := [.ref 11, .int l1, .ref (400 + l2), .int l3, .int (l4 + 1), .ref (200 + l5), .int s0]) (dk D107 48 rfl) rfl rfl ci1 (Nat.le_of_ble_eq_true rfl) rfl).trans ?_
        refine (r_goto (L' := [.ref 11, .int l1, .ref (400 + l2), .int l3, .int (l4 + 1), .retAddr 0, .retAddr 0]) (dk D107 49 rfl) rfl nd107_5 rfl).trans ?_
        exact rfl
    · refine (r_inc (L' := [.ref 11, .int l1, .ref (400 + l2), .int l3, .int (l4 + 1), .ref (200 + l5), .int s0]) (dk D107 48 rfl) rfl rfl ci1 (Nat.le_of_ble_eq_true rfl) rfl).trans ?_
      refine (r_goto (L' := [.ref 11, .int l1, .ref (400 + l2), .int l3, .int (l4 + 1), .retAddr 0, .retAddr 0]) (dk D107 49 rfl) rfl nd107_5 rfl).trans ?_
      exact rfl
  · exact rfl
theorem E107_73 {d sl : Nat} {p : Nat → Nat} {I : Nat → Nat → Int32} {J : Nat → Nat → Int64} (l1 : Int32) {l2 : Nat} (l3 : Int32) (l4 : Int32) {l5 : Nat} (l6 : Int32) (hl2 : l2 < 30) (hl5 : l5 < 60) : ev (d + 1) 107 73 [.ref 11, .int l1, .ref (400 + l2), .int l3, .int l4, .ref (200 + l5), .int l6] [] (S sl p I J) = evK (d + 1) 107 97 [.ref 11, .int l1, .ref (400 + l2), .int l6, .int l4, .ref (200 + l5), .int l6] [] (den d 2 [.ref (700 + l2), .ref (300 + l5)] (S sl p (up2 I (400 + l2) 6 (I (200 + l5) 7)) J)) := by
  refine (r_il (dk D107 37 rfl) rfl).trans ?_
  refine (r_isn (L' := [.ref 11, .int l1, .ref (400 + l2), .int l6, .int l4, .ref (200 + l5), .int l6]) (dk D107 38 rfl) (Nat.le_of_ble_eq_true rfl) rfl).trans ?_
  refine (r_aln (dk D107 39 rfl) rfl).trans ?_
  refine (r_al (dk D107 40 rfl) rfl).trans ?_
  refine (r_getI (dk D107 41 rfl) ow107 q10_141 (obC hl5)).trans ?_
  refine (r_putI (dk D107 42 rfl) ow107 w10_220 (obG hl2)).trans ?_
  refine (r_aln (dk D107 43 rfl) rfl).trans ?_
  refine (r_getR (dk D107 44 rfl) ow107 q10_188 (obG hl2) (rfG1 hl2)).trans ?_
  refine (r_al (dk D107 45 rfl) rfl).trans ?_
  refine (r_getR (dk D107 46 rfl) ow107 q10_185 (obC hl5) (rfC hl5)).trans ?_
  exact r_cv (dk D107 47 rfl) ow107 c10_195 mf2 (Nat.le_of_ble_eq_true rfl) rfl rfl (Nat.le_of_ble_eq_true rfl) (Nat.le_of_ble_eq_true rfl) (ob700 hl2)
theorem E107_97 {d sl : Nat} {p : Nat → Nat} {I : Nat → Nat → Int32} {J : Nat → Nat → Int64} (l1 : Int32) {l2 : Nat} (l3 : Int32) (l4 : Int32) {l5 : Nat} (l6 : Int32) (hl2 : l2 < 30) (hl5 : l5 < 60) : ev d 107 97 [.ref 11, .int l1, .ref (400 + l2), .int l3, .int l4, .ref (200 + l5), .int l6] [] (S sl p I J) = ev d 107 5 [.ref 11, .int l1, .ref (400 + l2), .int l3, .int (l4 + 1), .retAddr 0, .retAddr 0] [] (S sl p I J) := by
  refine (r_inc (L' := [.ref 11, .int l1, .ref (400 + l2), .int l3, .int (l4 + 1), .ref (200 + l5), .int l6]) (dk D107 48 rfl) rfl rfl ci1 (Nat.le_of_ble_eq_true rfl) rfl).trans ?_
  refine (r_goto (L' := [.ref 11, .int l1, .ref (400 + l2), .int l3, .int (l4 + 1), .retAddr 0, .retAddr 0]) (dk D107 49 rfl) rfl nd107_5 rfl).trans ?_
  exact rfl
set_option maxRecDepth 20000 in
theorem D108 : dOK 108 [(0, .iconst 0, 1), (1, .istore_n 3, 1), (2, .iconst 0, 1), (3, .istore 4, 2), (5, .iload 4, 2), (7, .aload_n 0, 1), (8, .getfield 9, 3), (11, .getfield 77, 3), (14, .if_icmp .ge 40, 3), (17, .aload_n 0, 1), (18, .getfield 19, 3), (21, .iload 4, 2), (23, .iaload, 1), (24, .iload_n 1, 1), (25, .if_icmp .ne 23, 3), (28, .aload_n 0, 1), (29, .getfield 9, 3), (32, .iload_n 2, 1), (33, .iload 4, 2), (35, .invokevirtual 80, 3), (38, .aload_n 0, 1), (39, .getfield 61, 3), (42, .if_icmp .gt 6, 3), (45, .iinc 3 1, 3), (48, .iinc 4 1, 3), (51, .goto (-46), 3), (54, .iload_n 3, 1), (55, .ireturn, 1)] = true := by decide +kernel
theorem E108_0 {d sl : Nat} {p : Nat → Nat} {I : Nat → Nat → Int32} {J : Nat → Nat → Int64} (a1 : Int32) (a2 : Int32)  : den d 108 [.ref 11, .int a1, .int a2] (S sl p I J) = ev d 108 5 [.ref 11, .int a1, .int a2, .int 0, .int 0] [] (S sl p I J) := by
  refine (show den d 108 [.ref 11, .int a1, .int a2] (S sl p I J) = ev d 108 0 [.ref 11, .int a1, .int a2, .retAddr 0, .retAddr 0] [] (S sl p I J) from rfl).trans ?_
  refine (r_ic (dk D108 0 rfl) ci0).trans ?_
  refine (r_isn (L' := [.ref 11, .int a1, .int a2, .int 0, .retAddr 0]) (dk D108 1 rfl) (Nat.le_of_ble_eq_true rfl) rfl).trans ?_
  refine (r_ic (dk D108 2 rfl) ci0).trans ?_
  refine (r_is (L' := [.ref 11, .int a1, .int a2, .int 0, .int 0]) (dk D108 3 rfl) (Nat.le_of_ble_eq_true rfl) rfl).trans ?_
  exact rfl
theorem E108_5 {d sl : Nat} {p : Nat → Nat} {I : Nat → Nat → Int32} {J : Nat → Nat → Int64} (l1 : Int32) (l2 : Int32) (l3 : Int32) (l4 : Int32)  : ev (d + 1) 108 5 [.ref 11, .int l1, .int l2, .int l3, .int l4] [] (S sl p I J) = (if l4 < (I 4 8) then ck (ixb 60 l4) ((if (I 12 (Int32.toNatClampNeg l4)) = l1 then evK (d + 1) 108 38 [.ref 11, .int l1, .int l2, .int l3, .int l4] [] (den d 66 [.ref 4, .int l2, .int l4] (S sl p I J)) else ev (d + 1) 108 5 [.ref 11, .int l1, .int l2, .int l3, .int (l4 + 1)] [] (S sl p I J))) else some (some (.int l3), (S sl p I J))) := by
  refine (r_il (dk D108 4 rfl) rfl).trans ?_
  refine (r_aln (dk D108 5 rfl) rfl).trans ?_
  refine (r_getR (dk D108 6 rfl) ow108 q10_9 ob_11 rfl).trans ?_
  refine (r_getI (dk D108 7 rfl) ow108 q10_77 ob_4).trans ?_
  refine (r_ge (dk D108 8 rfl) rfl).trans (ite2 ?_ ?_)
  · refine (r_aln (dk D108 9 rfl) rfl).trans ?_
    refine (r_getR (dk D108 10 rfl) ow108 q10_19 ob_11 rfl).trans ?_
    refine (r_il (dk D108 11 rfl) rfl).trans ?_
    refine (r_ild (dk D108 12 rfl) ar_12).trans (ck3 fun g1 => ?_)
    refine (r_iln (dk D108 13 rfl) rfl).trans ?_
    refine (r_ne (dk D108 14 rfl) rfl).trans (ite2 ?_ ?_)
    · refine (r_aln (dk D108 15 rfl) rfl).trans ?_
      refine (r_getR (dk D108 16 rfl) ow108 q10_9 ob_11 rfl).trans ?_
      refine (r_iln (dk D108 17 rfl) rfl).trans ?_
      refine (r_il (dk D108 18 rfl) rfl).trans ?_
      exact r_cv (dk D108 19 rfl) ow108 c10_80 mf66 (Nat.le_of_ble_eq_true rfl) rfl rfl (Nat.le_of_ble_eq_true rfl) (Nat.le_of_ble_eq_true rfl) ob_4
    · refine (r_inc (L' := [.ref 11, .int l1, .int l2, .int l3, .int (l4 + 1)]) (dk D108 24 rfl) rfl rfl ci1 (Nat.le_of_ble_eq_true rfl) rfl).trans ?_
      refine (r_goto (L' := [.ref 11, .int l1, .int l2, .int l3, .int (l4 + 1)]) (dk D108 25 rfl) rfl nd108_5 rfl).trans ?_
      exact rfl
  · refine (r_iln (dk D108 26 rfl) rfl).trans ?_
    exact r_ret (dk D108 27 rfl) rt108
theorem E108_38 {d sl : Nat} {p : Nat → Nat} {I : Nat → Nat → Int32} {J : Nat → Nat → Int64} (l1 : Int32) (l2 : Int32) (l3 : Int32) (l4 : Int32) (s0 : Int32)  : ev d 108 38 [.ref 11, .int l1, .int l2, .int l3, .int l4] [.int s0] (S sl p I J) = (if s0 ≤ (I 11 12) then ev d 108 5 [.ref 11, .int l1, .int l2, .int (l3 + 1), .int (l4 + 1)] [] (S sl p I J) else ev d 108 5 [.ref 11, .int l1, .int l2, .int l3, .int (l4 + 1)] [] (S sl p I J)) := by
  refine (r_aln (dk D108 20 rfl) rfl).trans ?_
  refine (r_getI (dk D108 21 rfl) ow108 q10_61 ob_11).trans ?_
  refine (r_gt (dk D108 22 rfl) rfl).trans (ite2 ?_ ?_)
  · refine (r_inc (L' := [.ref 11, .int l1, .int l2, .int (l3 + 1), .int l4]) (dk D108 23 rfl) rfl rfl ci1 (Nat.le_of_ble_eq_true rfl) rfl).trans ?_
    refine (r_inc (L' := [.ref 11, .int l1, .int l2, .int (l3 + 1), .int (l4 + 1)]) (dk D108 24 rfl) rfl rfl ci1 (Nat.le_of_ble_eq_true rfl) rfl).trans ?_
    refine (r_goto (L' := [.ref 11, .int l1, .int l2, .int (l3 + 1), .int (l4 + 1)]) (dk D108 25 rfl) rfl nd108_5 rfl).trans ?_
    exact rfl
  · refine (r_inc (L' := [.ref 11, .int l1, .int l2, .int l3, .int (l4 + 1)]) (dk D108 24 rfl) rfl rfl ci1 (Nat.le_of_ble_eq_true rfl) rfl).trans ?_
    refine (r_goto (L' := [.ref 11, .int l1, .int l2, .int l3, .int (l4 + 1)]) (dk D108 25 rfl) rfl nd108_5 rfl).trans ?_
    exact rfl
set_option maxRecDepth 20000 in
theorem D109 : dOK 109 [(0, .iconst 0, 1), (1, .istore_n 3, 1), (2, .iload_n 3, 1), (3, .bipush 90, 2), (5, .if_icmp .gt 16, 3), (8, .aload_n 0, 1), (9, .getfield 58, 3), (12, .iload_n 3, 1), (13, .iconst 0, 1), (14, .iastore, 1), (15, .iinc 3 1, 3), (18, .goto (-16), 3), (21, .aload_n 2, 1), (22, .iconst 0, 1), (23, .putfield 223, 3), (26, .iconst 0, 1), (27, .istore_n 3, 1), (28, .iload_n 3, 1), (29, .aload_n 0, 1), (30, .getfield 9, 3), (33, .getfield 77, 3), (36, .if_icmp .ge 79, 3), (39, .aload_n 0, 1), (40, .getfield 19, 3), (43, .iload_n 3, 1), (44, .iaload, 1), (45, .iload_n 1, 1), (46, .if_icmp .ne 63, 3), (49, .aload_n 0, 1), (50, .getfield 15, 3), (53, .aload_n 0, 1), (54, .getfield 9, 3), (57, .getfield 137, 3), (60, .iload_n 3, 1), (61, .aaload, 1), (62, .getfield 185, 3), (65, .aload_n 2, 1), (66, .getfield 36, 3), (69, .invokevirtual 226, 3), (72, .istore 4, 2), (74, .aload_n 0, 1), (75, .getfield 58, 3), (78, .iload 4, 2), (80, .dup2, 1), (81, .iaload, 1), (82, .aload_n 0, 1), (83, .getfield 9, 3), (86, .getfield 137, 3), (89, .iload_n 3, 1), (90, .aaload, 1), (91, .getfield 182, 3), (94, .iadd, 1), (95, .iastore, 1), (96, .aload_n 2, 1), (97, .aload_n 2, 1), (98, .getfield 223, 3), (101, .iload 4, 2), (103, .invokestatic 101, 3), (106, .putfield 223, 3), (109, .iinc 3 1, 3), (112, .goto (-84), 3), (115, .aload_n 2, 1), (116, .iconst 0, 1), (117, .putfield 230, 3), (120, .aload_n 0, 1), (121, .getfield 58, 3), (124, .iconst 0, 1), (125, .iaload, 1), (126, .i2l, 1), (127, .lstore_n 3, 1), (128, .iconst 1, 1), (129, .istore 5, 2), (131, .iload 5, 2), (133, .bipush 90, 2), (135, .if_icmp .gt 42, 3), (138, .ldc2_w 233, 3), (141, .lload_n 3, 1), (142, .lmul, 1), (143, .aload_n 2, 1), (144, .getfield 173, 3), (147, .getfield 235, 3), (150, .lcmp, 1), (151, .ifCond .ge 26, 3), (154, .lload_n 3, 1), (155, .aload_n 0, 1), (156, .getfield 58, 3), (159, .iload 5, 2), (161, .iaload, 1), (162, .i2l, 1), (163, .ladd, 1), (164, .lstore_n 3, 1), (165, .aload_n 2, 1), (166, .iload 5, 2), (168, .putfield 230, 3), (171, .iinc 5 1, 3), (174, .goto (-43), 3), (177, .return_, 1)] = true := by decide +kernel
theorem E109_0 {d sl : Nat} {p : Nat → Nat} {I : Nat → Nat → Int32} {J : Nat → Nat → Int64} (a1 : Int32) {a2 : Nat} (h2 : a2 < 30) : den d 109 [.ref 11, .int a1, .ref (400 + a2)] (S sl p I J) = ev d 109 2 [.ref 11, .int a1, .ref (400 + a2), .int 0, .retAddr 0, .retAddr 0] [] (S sl p I J) := by
  refine (show den d 109 [.ref 11, .int a1, .ref (400 + a2)] (S sl p I J) = ev d 109 0 [.ref 11, .int a1, .ref (400 + a2), .retAddr 0, .retAddr 0, .retAddr 0] [] (S sl p I J) from rfl).trans ?_
  refine (r_ic (dk D109 0 rfl) ci0).trans ?_
  refine (r_isn (L' := [.ref 11, .int a1, .ref (400 + a2), .int 0, .retAddr 0, .retAddr 0]) (dk D109 1 rfl) (Nat.le_of_ble_eq_true rfl) rfl).trans ?_
  exact rfl
theorem E109_2 {d sl : Nat} {p : Nat → Nat} {I : Nat → Nat → Int32} {J : Nat → Nat → Int64} (l1 : Int32) {l2 : Nat} (l3 : Int32) (hl2 : l2 < 30) : ev d 109 2 [.ref 11, .int l1, .ref (400 + l2), .int l3, .retAddr 0, .retAddr 0] [] (S sl p I J) = (if l3 ≤ 90 then ck (ixb 91 l3) (ev d 109 2 [.ref 11, .int l1, .ref (400 + l2), .int (l3 + 1), .retAddr 0, .retAddr 0] [] (S sl p (up2 I 21 (Int32.toNatClampNeg l3) 0) J)) else ev d 109 28 [.ref 11, .int l1, .ref (400 + l2), .int 0, .retAddr 0, .retAddr 0] [] (S sl p (up2 I (400 + l2) 9 0) J)) := by
  refine (r_iln (dk D109 2 rfl) rfl).trans ?_
  refine (r_bp (dk D109 3 rfl) cb90).trans ?_
  refine (r_gt (dk D109 4 rfl) rfl).trans (ite2 ?_ ?_)
  · refine (r_aln (dk D109 5 rfl) rfl).trans ?_
    refine (r_getR (dk D109 6 rfl) ow109 q10_58 ob_11 rfl).trans ?_
    refine (r_iln (dk D109 7 rfl) rfl).trans ?_
    refine (r_ic (dk D109 8 rfl) ci0).trans ?_
    refine (r_ist (dk D109 9 rfl) ar_21).trans (ck3 fun g1 => ?_)
    refine (r_inc (L' := [.ref 11, .int l1, .ref (400 + l2), .int (l3 + 1), .retAddr 0, .retAddr 0]) (dk D109 10 rfl) rfl rfl ci1 (Nat.le_of_ble_eq_true rfl) rfl).trans ?_
    refine (r_goto (L' := [.ref 11, .int l1, .ref (400 + l2), .int (l3 + 1), .retAddr 0, .retAddr 0]) (dk D109 11 rfl) rfl nd109_2 rfl).trans ?_
    exact rfl
  · refine (r_aln (dk D109 12 rfl) rfl).trans ?_
    refine (r_ic (dk D109 13 rfl) ci0).trans ?_
    refine (r_putI (dk D109 14 rfl) ow109 w10_223 (obG hl2)).trans ?_
    refine (r_ic (dk D109 15 rfl) ci0).trans ?_
    refine (r_isn (L' := [.ref 11, .int l1, .ref (400 + l2), .int 0, .retAddr 0, .retAddr 0]) (dk D109 16 rfl) (Nat.le_of_ble_eq_true rfl) rfl).trans ?_
    exact rfl
theorem E109_28 {d sl : Nat} {p : Nat → Nat} {I : Nat → Nat → Int32} {J : Nat → Nat → Int64} (l1 : Int32) {l2 : Nat} (l3 : Int32) (hp : ∀ k, p k < 60) (hl2 : l2 < 30) : ev (d + 1) 109 28 [.ref 11, .int l1, .ref (400 + l2), .int l3, .retAddr 0, .retAddr 0] [] (S sl p I J) = (if l3 < (I 4 8) then ck (ixb 60 l3) ((if (I 12 (Int32.toNatClampNeg l3)) = l1 then ck (ixb 60 l3) (evK (d + 1) 109 72 [.ref 11, .int l1, .ref (400 + l2), .int l3, .retAddr 0, .retAddr 0] [] (den d 31 [.ref 2, .ref (300 + p (Int32.toNatClampNeg l3)), .ref (800 + l2)] (S sl p I J))) else ev (d + 1) 109 28 [.ref 11, .int l1, .ref (400 + l2), .int (l3 + 1), .retAddr 0, .retAddr 0] [] (S sl p I J))) else ev (d + 1) 109 131 [.ref 11, .int l1, .ref (400 + l2), .long (Int32.toInt64 ((up2 I (400 + l2) 10 0) 21 0)), .retAddr 0, .int 1] [] (S sl p (up2 I (400 + l2) 10 0) J)) := by
  refine (r_iln (dk D109 17 rfl) rfl).trans ?_
  refine (r_aln (dk D109 18 rfl) rfl).trans ?_
  refine (r_getR (dk D109 19 rfl) ow109 q10_9 ob_11 rfl).trans ?_
  refine (r_getI (dk D109 20 rfl) ow109 q10_77 ob_4).trans ?_
  refine (r_ge (dk D109 21 rfl) rfl).trans (ite2 ?_ ?_)
  · refine (r_aln (dk D109 22 rfl) rfl).trans ?_
    refine (r_getR (dk D109 23 rfl) ow109 q10_19 ob_11 rfl).trans ?_
    refine (r_iln (dk D109 24 rfl) rfl).trans ?_
    refine (r_ild (dk D109 25 rfl) ar_12).trans (ck3 fun g1 => ?_)
    refine (r_iln (dk D109 26 rfl) rfl).trans ?_
    refine (r_ne (dk D109 27 rfl) rfl).trans (ite2 ?_ ?_)
    · refine (r_aln (dk D109 28 rfl) rfl).trans ?_
      refine (r_getR (dk D109 29 rfl) ow109 q10_15 ob_11 rfl).trans ?_
      refine (r_aln (dk D109 30 rfl) rfl).trans ?_
      refine (r_getR (dk D109 31 rfl) ow109 q10_9 ob_11 rfl).trans ?_
      refine (r_getR (dk D109 32 rfl) ow109 q10_137 ob_4 rfl).trans ?_
      refine (r_iln (dk D109 33 rfl) rfl).trans ?_
      refine (r_ald (dk D109 34 rfl) ar_9 (by decide) rfA9).trans (ck3 fun g2 => ?_)
      refine (r_getR (dk D109 35 rfl) ow109 q10_185 (obC (hp (Int32.toNatClampNeg l3))) (rfC (hp (Int32.toNatClampNeg l3)))).trans ?_
      refine (r_aln (dk D109 36 rfl) rfl).trans ?_
      refine (r_getR (dk D109 37 rfl) ow109 q10_36 (obG hl2) (rfG2 hl2)).trans ?_
      exact r_cv (dk D109 38 rfl) ow109 c10_226 mf31 (Nat.le_of_ble_eq_true rfl) rfl rfl (Nat.le_of_ble_eq_true rfl) (Nat.le_of_ble_eq_true rfl) ob_2
    · refine (r_inc (L' := [.ref 11, .int l1, .ref (400 + l2), .int (l3 + 1), .retAddr 0, .retAddr 0]) (dk D109 59 rfl) rfl rfl ci1 (Nat.le_of_ble_eq_true rfl) rfl).trans ?_
      refine (r_goto (L' := [.ref 11, .int l1, .ref (400 + l2), .int (l3 + 1), .retAddr 0, .retAddr 0]) (dk D109 60 rfl) rfl nd109_28 rfl).trans ?_
      exact rfl
  · refine (r_aln (dk D109 61 rfl) rfl).trans ?_
    refine (r_ic (dk D109 62 rfl) ci0).trans ?_
    refine (r_putI (dk D109 63 rfl) ow109 w10_230 (obG hl2)).trans ?_
    refine (r_aln (dk D109 64 rfl) rfl).trans ?_
    refine (r_getR (dk D109 65 rfl) ow109 q10_58 ob_11 rfl).trans ?_
    refine (r_ic (dk D109 66 rfl) ci0).trans ?_
    refine (r_ildc (dk D109 67 rfl) ar_21 rfl rfl).trans ?_
    refine (r_i2l (dk D109 68 rfl)).trans ?_
    refine (r_lsn (L' := [.ref 11, .int l1, .ref (400 + l2), .long (Int32.toInt64 ((up2 I (400 + l2) 10 0) 21 0)), .retAddr 0, .retAddr 0]) (dk D109 69 rfl) (Nat.le_of_ble_eq_true rfl) rfl).trans ?_
    refine (r_ic (dk D109 70 rfl) ci1).trans ?_
    refine (r_is (L' := [.ref 11, .int l1, .ref (400 + l2), .long (Int32.toInt64 ((up2 I (400 + l2) 10 0) 21 0)), .retAddr 0, .int 1]) (dk D109 71 rfl) (Nat.le_of_ble_eq_true rfl) rfl).trans ?_
    exact rfl
theorem E109_72 {d sl : Nat} {p : Nat → Nat} {I : Nat → Nat → Int32} {J : Nat → Nat → Int64} (l1 : Int32) {l2 : Nat} (l3 : Int32) (s0 : Int32) (hp : ∀ k, p k < 60) (hl2 : l2 < 30) : ev (d + 1) 109 72 [.ref 11, .int l1, .ref (400 + l2), .int l3, .retAddr 0, .retAddr 0] [.int s0] (S sl p I J) = ck (ixb 91 s0) (ck (ixb 60 l3) (ck (ixb 91 s0) (ev (d + 1) 109 28 [.ref 11, .int l1, .ref (400 + l2), .int (l3 + 1), .retAddr 0, .retAddr 0] [] (S sl p (up2 (up2 I 21 (Int32.toNatClampNeg s0) ((I 21 (Int32.toNatClampNeg s0)) + (I (200 + p (Int32.toNatClampNeg l3)) 8))) (400 + l2) 9 (if ((up2 I 21 (Int32.toNatClampNeg s0) ((I 21 (Int32.toNatClampNeg s0)) + (I (200 + p (Int32.toNatClampNeg l3)) 8))) (400 + l2) 9) < s0 then s0 else ((up2 I 21 (Int32.toNatClampNeg s0) ((I 21 (Int32.toNatClampNeg s0)) + (I (200 + p (Int32.toNatClampNeg l3)) 8))) (400 + l2) 9))) J)))) := by
  refine (r_is (L' := [.ref 11, .int l1, .ref (400 + l2), .int l3, .int s0, .retAddr 0]) (dk D109 39 rfl) (Nat.le_of_ble_eq_true rfl) rfl).trans ?_
  refine (r_aln (dk D109 40 rfl) rfl).trans ?_
  refine (r_getR (dk D109 41 rfl) ow109 q10_58 ob_11 rfl).trans ?_
  refine (r_il (dk D109 42 rfl) rfl).trans ?_
  refine (r_dup2 (dk D109 43 rfl) rfl rfl).trans ?_
  refine (r_ild (dk D109 44 rfl) ar_21).trans (ck3 fun g1 => ?_)
  refine (r_aln (dk D109 45 rfl) rfl).trans ?_
  refine (r_getR (dk D109 46 rfl) ow109 q10_9 ob_11 rfl).trans ?_
  refine (r_getR (dk D109 47 rfl) ow109 q10_137 ob_4 rfl).trans ?_
  refine (r_iln (dk D109 48 rfl) rfl).trans ?_
  refine (r_ald (dk D109 49 rfl) ar_9 (by decide) rfA9).trans (ck3 fun g2 => ?_)
  refine (r_getI (dk D109 50 rfl) ow109 q10_182 (obC (hp (Int32.toNatClampNeg l3)))).trans ?_
  refine (r_iadd (dk D109 51 rfl)).trans ?_
  refine (r_ist (dk D109 52 rfl) ar_21).trans (ck3 fun g3 => ?_)
  refine (r_aln (dk D109 53 rfl) rfl).trans ?_
  refine (r_aln (dk D109 54 rfl) rfl).trans ?_
  refine (r_getI (dk D109 55 rfl) ow109 q10_223 (obG hl2)).trans ?_
  refine (r_il (dk D109 56 rfl) rfl).trans ?_
  refine (r_prm (st' := [.int (if ((up2 I 21 (Int32.toNatClampNeg s0) ((I 21 (Int32.toNatClampNeg s0)) + (I (200 + p (Int32.toNatClampNeg l3)) 8))) (400 + l2) 9) < s0 then s0 else ((up2 I 21 (Int32.toNatClampNeg s0) ((I 21 (Int32.toNatClampNeg s0)) + (I (200 + p (Int32.toNatClampNeg l3)) 8))) (400 + l2) 9)), .ref (400 + l2)]) (dk D109 57 rfl) ow109 p10_101 (Nat.le_of_ble_eq_true rfl) rfl).trans ?_
  refine (r_putI (dk D109 58 rfl) ow109 w10_223 (obG hl2)).trans ?_
  refine (r_inc (L' := [.ref 11, .int l1, .ref (400 + l2), .int (l3 + 1), .int s0, .retAddr 0]) (dk D109 59 rfl) rfl rfl ci1 (Nat.le_of_ble_eq_true rfl) rfl).trans ?_
  refine (r_goto (L' := [.ref 11, .int l1, .ref (400 + l2), .int (l3 + 1), .retAddr 0, .retAddr 0]) (dk D109 60 rfl) rfl nd109_28 rfl).trans ?_
  exact rfl
theorem E109_131 {d sl : Nat} {p : Nat → Nat} {I : Nat → Nat → Int32} {J : Nat → Nat → Int64} (l1 : Int32) {l2 : Nat} (l3 : Int64) (l5 : Int32) (hl2 : l2 < 30) : ev d 109 131 [.ref 11, .int l1, .ref (400 + l2), .long l3, .retAddr 0, .int l5] [] (S sl p I J) = (if l5 ≤ 90 then (if (2 * l3) < (J (500 + l2) 1) then ck (ixb 91 l5) (ev d 109 131 [.ref 11, .int l1, .ref (400 + l2), .long (l3 + (Int32.toInt64 (I 21 (Int32.toNatClampNeg l5)))), .retAddr 0, .int (l5 + 1)] [] (S sl p (up2 I (400 + l2) 10 l5) J)) else some (none, (S sl p I J))) else some (none, (S sl p I J))) := by
  refine (r_il (dk D109 72 rfl) rfl).trans ?_
  refine (r_bp (dk D109 73 rfl) cb90).trans ?_
  refine (r_gt (dk D109 74 rfl) rfl).trans (ite2 ?_ ?_)
  · refine (r_ld2 (dk D109 75 rfl) ow109 kk10_233).trans ?_
    refine (r_lln (dk D109 76 rfl) rfl).trans ?_
    refine (r_lmul (dk D109 77 rfl)).trans ?_
    refine (r_aln (dk D109 78 rfl) rfl).trans ?_
    refine (r_getR (dk D109 79 rfl) ow109 q10_173 (obG hl2) (rfG0 hl2)).trans ?_
    refine (r_getJ (dk D109 80 rfl) ow109 q10_235 (ob500 hl2)).trans ?_
    refine (r_jge (dk D109 81 rfl) (dk D109 82 rfl) rfl).trans (ite2 ?_ ?_)
    · refine (r_lln (dk D109 83 rfl) rfl).trans ?_
      refine (r_aln (dk D109 84 rfl) rfl).trans ?_
      refine (r_getR (dk D109 85 rfl) ow109 q10_58 ob_11 rfl).trans ?_
      refine (r_il (dk D109 86 rfl) rfl).trans ?_
      refine (r_ild (dk D109 87 rfl) ar_21).trans (ck3 fun g1 => ?_)
      refine (r_i2l (dk D109 88 rfl)).trans ?_
      refine (r_ladd (dk D109 89 rfl)).trans ?_
      refine (r_lsn (L' := [.ref 11, .int l1, .ref (400 + l2), .long (l3 + (Int32.toInt64 (I 21 (Int32.toNatClampNeg l5)))), .retAddr 0, .int l5]) (dk D109 90 rfl) (Nat.le_of_ble_eq_true rfl) rfl).trans ?_
      refine (r_aln (dk D109 91 rfl) rfl).trans ?_
      refine (r_il (dk D109 92 rfl) rfl).trans ?_
      refine (r_putI (dk D109 93 rfl) ow109 w10_230 (obG hl2)).trans ?_
      refine (r_inc (L' := [.ref 11, .int l1, .ref (400 + l2), .long (l3 + (Int32.toInt64 (I 21 (Int32.toNatClampNeg l5)))), .retAddr 0, .int (l5 + 1)]) (dk D109 94 rfl) rfl rfl ci1 (Nat.le_of_ble_eq_true rfl) rfl).trans ?_
      refine (r_goto (L' := [.ref 11, .int l1, .ref (400 + l2), .long (l3 + (Int32.toInt64 (I 21 (Int32.toNatClampNeg l5)))), .retAddr 0, .int (l5 + 1)]) (dk D109 95 rfl) rfl nd109_131 rfl).trans ?_
      exact rfl
    · exact r_rev (dk D109 96 rfl) rt109
  · exact r_rev (dk D109 96 rfl) rt109
set_option maxRecDepth 20000 in
theorem D110 : dOK 110 [(0, .aload_n 0, 1), (1, .getfield 15, 3), (4, .aload_n 0, 1), (5, .getfield 31, 3), (8, .iload_n 1, 1), (9, .aaload, 1), (10, .aload_n 0, 1), (11, .getfield 31, 3), (14, .iload_n 2, 1), (15, .aaload, 1), (16, .invokevirtual 226, 3), (19, .ireturn, 1)] = true := by decide +kernel
theorem E110_0 {d sl : Nat} {p : Nat → Nat} {I : Nat → Nat → Int32} {J : Nat → Nat → Int64} (a1 : Int32) (a2 : Int32)  : den (d + 1) 110 [.ref 11, .int a1, .int a2] (S sl p I J) = ck (ixb 30 a1) (ck (ixb 30 a2) (evK (d + 1) 110 19 [.ref 11, .int a1, .int a2] [] (den d 31 [.ref 2, .ref (800 + (Int32.toNatClampNeg a1)), .ref (800 + (Int32.toNatClampNeg a2))] (S sl p I J)))) := by
  refine (show den (d + 1) 110 [.ref 11, .int a1, .int a2] (S sl p I J) = ev (d + 1) 110 0 [.ref 11, .int a1, .int a2] [] (S sl p I J) from rfl).trans ?_
  refine (r_aln (dk D110 0 rfl) rfl).trans ?_
  refine (r_getR (dk D110 1 rfl) ow110 q10_15 ob_11 rfl).trans ?_
  refine (r_aln (dk D110 2 rfl) rfl).trans ?_
  refine (r_getR (dk D110 3 rfl) ow110 q10_31 ob_11 rfl).trans ?_
  refine (r_iln (dk D110 4 rfl) rfl).trans ?_
  refine (r_ald (dk D110 5 rfl) ar_14 (by decide) rfA14).trans (ck3 fun g1 => ?_)
  refine (r_aln (dk D110 6 rfl) rfl).trans ?_
  refine (r_getR (dk D110 7 rfl) ow110 q10_31 ob_11 rfl).trans ?_
  refine (r_iln (dk D110 8 rfl) rfl).trans ?_
  refine (r_ald (dk D110 9 rfl) ar_14 (by decide) rfA14).trans (ck3 fun g2 => ?_)
  exact r_cv (dk D110 10 rfl) ow110 c10_226 mf31 (Nat.le_of_ble_eq_true rfl) rfl rfl (Nat.le_of_ble_eq_true rfl) (Nat.le_of_ble_eq_true rfl) ob_2
theorem E110_19 {d sl : Nat} {p : Nat → Nat} {I : Nat → Nat → Int32} {J : Nat → Nat → Int64} (l1 : Int32) (l2 : Int32) (s0 : Int32)  : ev d 110 19 [.ref 11, .int l1, .int l2] [.int s0] (S sl p I J) = some (some (.int s0), (S sl p I J)) := by
  exact r_ret (dk D110 11 rfl) rt110
set_option maxRecDepth 20000 in
theorem D111 : dOK 111 [(0, .aload_n 0, 1), (1, .iload_n 1, 1), (2, .iload_n 2, 1), (3, .invokevirtual 239, 3), (6, .aload_n 0, 1), (7, .getfield 25, 3), (10, .iload_n 1, 1), (11, .aaload, 1), (12, .getfield 223, 3), (15, .aload_n 0, 1), (16, .getfield 25, 3), (19, .iload_n 2, 1), (20, .aaload, 1), (21, .getfield 223, 3), (24, .iadd, 1), (25, .if_icmp .gt 7, 3), (28, .iconst 1, 1), (29, .goto 4, 3), (32, .iconst 0, 1), (33, .ireturn, 1)] = true := by decide +kernel
theorem E111_0 {d sl : Nat} {p : Nat → Nat} {I : Nat → Nat → Int32} {J : Nat → Nat → Int64} (a1 : Int32) (a2 : Int32)  : den (d + 1) 111 [.ref 11, .int a1, .int a2] (S sl p I J) = evK (d + 1) 111 6 [.ref 11, .int a1, .int a2] [] (den d 110 [.ref 11, .int a1, .int a2] (S sl p I J)) := by
  refine (show den (d + 1) 111 [.ref 11, .int a1, .int a2] (S sl p I J) = ev (d + 1) 111 0 [.ref 11, .int a1, .int a2] [] (S sl p I J) from rfl).trans ?_
  refine (r_aln (dk D111 0 rfl) rfl).trans ?_
  refine (r_iln (dk D111 1 rfl) rfl).trans ?_
  refine (r_iln (dk D111 2 rfl) rfl).trans ?_
  exact r_cv (dk D111 3 rfl) ow111 c10_239 mf110 (Nat.le_of_ble_eq_true rfl) rfl rfl (Nat.le_of_ble_eq_true rfl) (Nat.le_of_ble_eq_true rfl) ob_11
theorem E111_6 {d sl : Nat} {p : Nat → Nat} {I : Nat → Nat → Int32} {J : Nat → Nat → Int64} (l1 : Int32) (l2 : Int32) (s0 : Int32)  : ev d 111 6 [.ref 11, .int l1, .int l2] [.int s0] (S sl p I J) = ck (ixb 30 l1) (ck (ixb 30 l2) ((if s0 ≤ ((I (400 + (Int32.toNatClampNeg l1)) 9) + (I (400 + (Int32.toNatClampNeg l2)) 9)) then some (some (.int 1), (S sl p I J)) else some (some (.int 0), (S sl p I J))))) := by
  refine (r_aln (dk D111 4 rfl) rfl).trans ?_
  refine (r_getR (dk D111 5 rfl) ow111 q10_25 ob_11 rfl).trans ?_
  refine (r_iln (dk D111 6 rfl) rfl).trans ?_
  refine (r_ald (dk D111 7 rfl) ar_13 (by decide) rfA13).trans (ck3 fun g1 => ?_)
  refine (r_getI (dk D111 8 rfl) ow111 q10_223 (obG (ixb_lt g1))).trans ?_
  refine (r_aln (dk D111 9 rfl) rfl).trans ?_
  refine (r_getR (dk D111 10 rfl) ow111 q10_25 ob_11 rfl).trans ?_
  refine (r_iln (dk D111 11 rfl) rfl).trans ?_
  refine (r_ald (dk D111 12 rfl) ar_13 (by decide) rfA13).trans (ck3 fun g2 => ?_)
  refine (r_getI (dk D111 13 rfl) ow111 q10_223 (obG (ixb_lt g2))).trans ?_
  refine (r_iadd (dk D111 14 rfl)).trans ?_
  refine (r_gt (dk D111 15 rfl) rfl).trans (ite2 ?_ ?_)
  · refine (r_ic (dk D111 16 rfl) ci1).trans ?_
    refine (r_goto (L' := [.ref 11, .int l1, .int l2]) (dk D111 17 rfl) rfl nd111_33 rfl).trans ?_
    exact r_rez (dk D111 19 rfl) rt111 (by decide)
  · refine (r_ic (dk D111 18 rfl) ci0).trans ?_
    exact r_rez (dk D111 19 rfl) rt111 (by decide)
set_option maxRecDepth 20000 in
theorem D112 : dOK 112 [(0, .aload_n 0, 1), (1, .getfield 25, 3), (4, .iload_n 2, 1), (5, .aaload, 1), (6, .astore_n 3, 1), (7, .iconst 0, 1), (8, .istore 4, 2), (10, .iconst 0, 1), (11, .istore 5, 2), (13, .iload 5, 2), (15, .aload_n 0, 1), (16, .getfield 9, 3), (19, .getfield 77, 3), (22, .if_icmp .ge 54, 3), (25, .aload_n 0, 1), (26, .getfield 19, 3), (29, .iload 5, 2), (31, .iaload, 1), (32, .iload_n 1, 1), (33, .if_icmp .ne 37, 3), (36, .aload_n 0, 1), (37, .getfield 15, 3), (40, .aload_n 0, 1), (41, .getfield 9, 3), (44, .getfield 137, 3), (47, .iload 5, 2), (49, .aaload, 1), (50, .getfield 185, 3), (53, .aload_n 3, 1), (54, .getfield 36, 3), (57, .aload_n 3, 1), (58, .getfield 223, 3), (61, .invokevirtual 242, 3), (64, .ifCond .eq 6, 3), (67, .iinc 4 1, 3), (70, .iinc 5 1, 3), (73, .goto (-60), 3), (76, .iload 4, 2), (78, .ireturn, 1)] = true := by decide +kernel
theorem E112_0 {d sl : Nat} {p : Nat → Nat} {I : Nat → Nat → Int32} {J : Nat → Nat → Int64} (a1 : Int32) (a2 : Int32)  : den d 112 [.ref 11, .int a1, .int a2] (S sl p I J) = ck (ixb 30 a2) (ev d 112 13 [.ref 11, .int a1, .int a2, .ref (400 + (Int32.toNatClampNeg a2)), .int 0, .int 0] [] (S sl p I J)) := by
  refine (show den d 112 [.ref 11, .int a1, .int a2] (S sl p I J) = ev d 112 0 [.ref 11, .int a1, .int a2, .retAddr 0, .retAddr 0, .retAddr 0] [] (S sl p I J) from rfl).trans ?_
  refine (r_aln (dk D112 0 rfl) rfl).trans ?_
  refine (r_getR (dk D112 1 rfl) ow112 q10_25 ob_11 rfl).trans ?_
  refine (r_iln (dk D112 2 rfl) rfl).trans ?_
  refine (r_ald (dk D112 3 rfl) ar_13 (by decide) rfA13).trans (ck3 fun g1 => ?_)
  refine (r_asn (L' := [.ref 11, .int a1, .int a2, .ref (400 + (Int32.toNatClampNeg a2)), .retAddr 0, .retAddr 0]) (dk D112 4 rfl) (Nat.le_of_ble_eq_true rfl) rfl).trans ?_
  refine (r_ic (dk D112 5 rfl) ci0).trans ?_
  refine (r_is (L' := [.ref 11, .int a1, .int a2, .ref (400 + (Int32.toNatClampNeg a2)), .int 0, .retAddr 0]) (dk D112 6 rfl) (Nat.le_of_ble_eq_true rfl) rfl).trans ?_
  refine (r_ic (dk D112 7 rfl) ci0).trans ?_
  refine (r_is (L' := [.ref 11, .int a1, .int a2, .ref (400 + (Int32.toNatClampNeg a2)), .int 0, .int 0]) (dk D112 8 rfl) (Nat.le_of_ble_eq_true rfl) rfl).trans ?_
  exact rfl
theorem E112_13 {d sl : Nat} {p : Nat → Nat} {I : Nat → Nat → Int32} {J : Nat → Nat → Int64} (l1 : Int32) (l2 : Int32) {l3 : Nat} (l4 : Int32) (l5 : Int32) (hp : ∀ k, p k < 60) (hl3 : l3 < 30) : ev (d + 1) 112 13 [.ref 11, .int l1, .int l2, .ref (400 + l3), .int l4, .int l5] [] (S sl p I J) = (if l5 < (I 4 8) then ck (ixb 60 l5) ((if (I 12 (Int32.toNatClampNeg l5)) = l1 then ck (ixb 60 l5) (evK (d + 1) 112 64 [.ref 11, .int l1, .int l2, .ref (400 + l3), .int l4, .int l5] [] (den d 30 [.ref 2, .ref (300 + p (Int32.toNatClampNeg l5)), .ref (800 + l3), .int (I (400 + l3) 9)] (S sl p I J))) else ev (d + 1) 112 13 [.ref 11, .int l1, .int l2, .ref (400 + l3), .int l4, .int (l5 + 1)] [] (S sl p I J))) else some (some (.int l4), (S sl p I J))) := by
  refine (r_il (dk D112 9 rfl) rfl).trans ?_
  refine (r_aln (dk D112 10 rfl) rfl).trans ?_
  refine (r_getR (dk D112 11 rfl) ow112 q10_9 ob_11 rfl).trans ?_
  refine (r_getI (dk D112 12 rfl) ow112 q10_77 ob_4).trans ?_
  refine (r_ge (dk D112 13 rfl) rfl).trans (ite2 ?_ ?_)
  · refine (r_aln (dk D112 14 rfl) rfl).trans ?_
    refine (r_getR (dk D112 15 rfl) ow112 q10_19 ob_11 rfl).trans ?_
    refine (r_il (dk D112 16 rfl) rfl).trans ?_
    refine (r_ild (dk D112 17 rfl) ar_12).trans (ck3 fun g1 => ?_)
    refine (r_iln (dk D112 18 rfl) rfl).trans ?_
    refine (r_ne (dk D112 19 rfl) rfl).trans (ite2 ?_ ?_)
    · refine (r_aln (dk D112 20 rfl) rfl).trans ?_
      refine (r_getR (dk D112 21 rfl) ow112 q10_15 ob_11 rfl).trans ?_
      refine (r_aln (dk D112 22 rfl) rfl).trans ?_
      refine (r_getR (dk D112 23 rfl) ow112 q10_9 ob_11 rfl).trans ?_
      refine (r_getR (dk D112 24 rfl) ow112 q10_137 ob_4 rfl).trans ?_
      refine (r_il (dk D112 25 rfl) rfl).trans ?_
      refine (r_ald (dk D112 26 rfl) ar_9 (by decide) rfA9).trans (ck3 fun g2 => ?_)
      refine (r_getR (dk D112 27 rfl) ow112 q10_185 (obC (hp (Int32.toNatClampNeg l5))) (rfC (hp (Int32.toNatClampNeg l5)))).trans ?_
      refine (r_aln (dk D112 28 rfl) rfl).trans ?_
      refine (r_getR (dk D112 29 rfl) ow112 q10_36 (obG hl3) (rfG2 hl3)).trans ?_
      refine (r_aln (dk D112 30 rfl) rfl).trans ?_
      refine (r_getI (dk D112 31 rfl) ow112 q10_223 (obG hl3)).trans ?_
      exact r_cv (dk D112 32 rfl) ow112 c10_242 mf30 (Nat.le_of_ble_eq_true rfl) rfl rfl (Nat.le_of_ble_eq_true rfl) (Nat.le_of_ble_eq_true rfl) ob_2
    · refine (r_inc (L' := [.ref 11, .int l1, .int l2, .ref (400 + l3), .int l4, .int (l5 + 1)]) (dk D112 35 rfl) rfl rfl ci1 (Nat.le_of_ble_eq_true rfl) rfl).trans ?_
      refine (r_goto (L' := [.ref 11, .int l1, .int l2, .ref (400 + l3), .int l4, .int (l5 + 1)]) (dk D112 36 rfl) rfl nd112_13 rfl).trans ?_
      exact rfl
  · refine (r_il (dk D112 37 rfl) rfl).trans ?_
    exact r_ret (dk D112 38 rfl) rt112
theorem E112_64 {d sl : Nat} {p : Nat → Nat} {I : Nat → Nat → Int32} {J : Nat → Nat → Int64} (l1 : Int32) (l2 : Int32) {l3 : Nat} (l4 : Int32) (l5 : Int32) (s0 : Int32) (hl3 : l3 < 30) : ev d 112 64 [.ref 11, .int l1, .int l2, .ref (400 + l3), .int l4, .int l5] [.int s0] (S sl p I J) = (if s0 = 0 then ev d 112 13 [.ref 11, .int l1, .int l2, .ref (400 + l3), .int l4, .int (l5 + 1)] [] (S sl p I J) else ev d 112 13 [.ref 11, .int l1, .int l2, .ref (400 + l3), .int (l4 + 1), .int (l5 + 1)] [] (S sl p I J)) := by
  refine (r_eq0 (dk D112 33 rfl) rfl).trans (ite2 ?_ ?_)
  · refine (r_inc (L' := [.ref 11, .int l1, .int l2, .ref (400 + l3), .int l4, .int (l5 + 1)]) (dk D112 35 rfl) rfl rfl ci1 (Nat.le_of_ble_eq_true rfl) rfl).trans ?_
    refine (r_goto (L' := [.ref 11, .int l1, .int l2, .ref (400 + l3), .int l4, .int (l5 + 1)]) (dk D112 36 rfl) rfl nd112_13 rfl).trans ?_
    exact rfl
  · refine (r_inc (L' := [.ref 11, .int l1, .int l2, .ref (400 + l3), .int (l4 + 1), .int l5]) (dk D112 34 rfl) rfl rfl ci1 (Nat.le_of_ble_eq_true rfl) rfl).trans ?_
    refine (r_inc (L' := [.ref 11, .int l1, .int l2, .ref (400 + l3), .int (l4 + 1), .int (l5 + 1)]) (dk D112 35 rfl) rfl rfl ci1 (Nat.le_of_ble_eq_true rfl) rfl).trans ?_
    refine (r_goto (L' := [.ref 11, .int l1, .int l2, .ref (400 + l3), .int (l4 + 1), .int (l5 + 1)]) (dk D112 36 rfl) rfl nd112_13 rfl).trans ?_
    exact rfl
set_option maxRecDepth 20000 in
theorem D113 : dOK 113 [(0, .aload_n 0, 1), (1, .getfield 19, 3), (4, .iload_n 1, 1), (5, .iaload, 1), (6, .iload_n 2, 1), (7, .if_icmp .ne 23, 3), (10, .aload_n 0, 1), (11, .getfield 9, 3), (14, .getfield 137, 3), (17, .iload_n 1, 1), (18, .aaload, 1), (19, .getfield 246, 3), (22, .iload_n 3, 1), (23, .if_icmp .ne 7, 3), (26, .iconst 1, 1), (27, .goto 4, 3), (30, .iconst 0, 1), (31, .ireturn, 1)] = true := by decide +kernel
theorem E113_0 {d sl : Nat} {p : Nat → Nat} {I : Nat → Nat → Int32} {J : Nat → Nat → Int64} (a1 : Int32) (a2 : Int32) (a3 : Int32) (hp : ∀ k, p k < 60)  : den d 113 [.ref 11, .int a1, .int a2, .int a3] (S sl p I J) = ck (ixb 60 a1) ((if (I 12 (Int32.toNatClampNeg a1)) = a2 then ck (ixb 60 a1) ((if (I (200 + p (Int32.toNatClampNeg a1)) 2) = a3 then some (some (.int 1), (S sl p I J)) else some (some (.int 0), (S sl p I J)))) else some (some (.int 0), (S sl p I J)))) := by
  refine (show den d 113 [.ref 11, .int a1, .int a2, .int a3] (S sl p I J) = ev d 113 0 [.ref 11, .int a1, .int a2, .int a3] [] (S sl p I J) from rfl).trans ?_
  refine (r_aln (dk D113 0 rfl) rfl).trans ?_
  refine (r_getR (dk D113 1 rfl) ow113 q10_19 ob_11 rfl).trans ?_
  refine (r_iln (dk D113 2 rfl) rfl).trans ?_
  refine (r_ild (dk D113 3 rfl) ar_12).trans (ck3 fun g1 => ?_)
  refine (r_iln (dk D113 4 rfl) rfl).trans ?_
  refine (r_ne (dk D113 5 rfl) rfl).trans (ite2 ?_ ?_)
  · refine (r_aln (dk D113 6 rfl) rfl).trans ?_
    refine (r_getR (dk D113 7 rfl) ow113 q10_9 ob_11 rfl).trans ?_
    refine (r_getR (dk D113 8 rfl) ow113 q10_137 ob_4 rfl).trans ?_
    refine (r_iln (dk D113 9 rfl) rfl).trans ?_
    refine (r_ald (dk D113 10 rfl) ar_9 (by decide) rfA9).trans (ck3 fun g2 => ?_)
    refine (r_getI (dk D113 11 rfl) ow113 q10_246 (obC (hp (Int32.toNatClampNeg a1)))).trans ?_
    refine (r_iln (dk D113 12 rfl) rfl).trans ?_
    refine (r_ne (dk D113 13 rfl) rfl).trans (ite2 ?_ ?_)
    · refine (r_ic (dk D113 14 rfl) ci1).trans ?_
      refine (r_goto (L' := [.ref 11, .int a1, .int a2, .int a3]) (dk D113 15 rfl) rfl nd113_31 rfl).trans ?_
      exact r_rez (dk D113 17 rfl) rt113 (by decide)
    · refine (r_ic (dk D113 16 rfl) ci0).trans ?_
      exact r_rez (dk D113 17 rfl) rt113 (by decide)
  · refine (r_ic (dk D113 16 rfl) ci0).trans ?_
    exact r_rez (dk D113 17 rfl) rt113 (by decide)
set_option maxRecDepth 20000 in
theorem D114 : dOK 114 [(0, .iconst 0, 1), (1, .istore_n 3, 1), (2, .iconst 0, 1), (3, .istore 4, 2), (5, .iload 4, 2), (7, .aload_n 0, 1), (8, .getfield 9, 3), (11, .getfield 77, 3), (14, .if_icmp .ge 23, 3), (17, .aload_n 0, 1), (18, .iload 4, 2), (20, .iload_n 1, 1), (21, .iload_n 2, 1), (22, .invokevirtual 249, 3), (25, .ifCond .eq 6, 3), (28, .iinc 3 1, 3), (31, .iinc 4 1, 3), (34, .goto (-29), 3), (37, .iload_n 3, 1), (38, .ireturn, 1)] = true := by decide +kernel
theorem E114_0 {d sl : Nat} {p : Nat → Nat} {I : Nat → Nat → Int32} {J : Nat → Nat → Int64} (a1 : Int32) (a2 : Int32)  : den d 114 [.ref 11, .int a1, .int a2] (S sl p I J) = ev d 114 5 [.ref 11, .int a1, .int a2, .int 0, .int 0] [] (S sl p I J) := by
  refine (show den d 114 [.ref 11, .int a1, .int a2] (S sl p I J) = ev d 114 0 [.ref 11, .int a1, .int a2, .retAddr 0, .retAddr 0] [] (S sl p I J) from rfl).trans ?_
  refine (r_ic (dk D114 0 rfl) ci0).trans ?_
  refine (r_isn (L' := [.ref 11, .int a1, .int a2, .int 0, .retAddr 0]) (dk D114 1 rfl) (Nat.le_of_ble_eq_true rfl) rfl).trans ?_
  refine (r_ic (dk D114 2 rfl) ci0).trans ?_
  refine (r_is (L' := [.ref 11, .int a1, .int a2, .int 0, .int 0]) (dk D114 3 rfl) (Nat.le_of_ble_eq_true rfl) rfl).trans ?_
  exact rfl
theorem E114_5 {d sl : Nat} {p : Nat → Nat} {I : Nat → Nat → Int32} {J : Nat → Nat → Int64} (l1 : Int32) (l2 : Int32) (l3 : Int32) (l4 : Int32)  : ev (d + 1) 114 5 [.ref 11, .int l1, .int l2, .int l3, .int l4] [] (S sl p I J) = (if l4 < (I 4 8) then evK (d + 1) 114 25 [.ref 11, .int l1, .int l2, .int l3, .int l4] [] (den d 113 [.ref 11, .int l4, .int l1, .int l2] (S sl p I J)) else some (some (.int l3), (S sl p I J))) := by
  refine (r_il (dk D114 4 rfl) rfl).trans ?_
  refine (r_aln (dk D114 5 rfl) rfl).trans ?_
  refine (r_getR (dk D114 6 rfl) ow114 q10_9 ob_11 rfl).trans ?_
  refine (r_getI (dk D114 7 rfl) ow114 q10_77 ob_4).trans ?_
  refine (r_ge (dk D114 8 rfl) rfl).trans (ite2 ?_ ?_)
  · refine (r_aln (dk D114 9 rfl) rfl).trans ?_
    refine (r_il (dk D114 10 rfl) rfl).trans ?_
    refine (r_iln (dk D114 11 rfl) rfl).trans ?_
    refine (r_iln (dk D114 12 rfl) rfl).trans ?_
    exact r_cv (dk D114 13 rfl) ow114 c10_249 mf113 (Nat.le_of_ble_eq_true rfl) rfl rfl (Nat.le_of_ble_eq_true rfl) (Nat.le_of_ble_eq_true rfl) ob_11
  · refine (r_iln (dk D114 18 rfl) rfl).trans ?_
    exact r_ret (dk D114 19 rfl) rt114
theorem E114_25 {d sl : Nat} {p : Nat → Nat} {I : Nat → Nat → Int32} {J : Nat → Nat → Int64} (l1 : Int32) (l2 : Int32) (l3 : Int32) (l4 : Int32) (s0 : Int32)  : ev d 114 25 [.ref 11, .int l1, .int l2, .int l3, .int l4] [.int s0] (S sl p I J) = (if s0 = 0 then ev d 114 5 [.ref 11, .int l1, .int l2, .int l3, .int (l4 + 1)] [] (S sl p I J) else ev d 114 5 [.ref 11, .int l1, .int l2, .int (l3 + 1), .int (l4 + 1)] [] (S sl p I J)) := by
  refine (r_eq0 (dk D114 14 rfl) rfl).trans (ite2 ?_ ?_)
  · refine (r_inc (L' := [.ref 11, .int l1, .int l2, .int l3, .int (l4 + 1)]) (dk D114 16 rfl) rfl rfl ci1 (Nat.le_of_ble_eq_true rfl) rfl).trans ?_
    refine (r_goto (L' := [.ref 11, .int l1, .int l2, .int l3, .int (l4 + 1)]) (dk D114 17 rfl) rfl nd114_5 rfl).trans ?_
    exact rfl
  · refine (r_inc (L' := [.ref 11, .int l1, .int l2, .int (l3 + 1), .int l4]) (dk D114 15 rfl) rfl rfl ci1 (Nat.le_of_ble_eq_true rfl) rfl).trans ?_
    refine (r_inc (L' := [.ref 11, .int l1, .int l2, .int (l3 + 1), .int (l4 + 1)]) (dk D114 16 rfl) rfl rfl ci1 (Nat.le_of_ble_eq_true rfl) rfl).trans ?_
    refine (r_goto (L' := [.ref 11, .int l1, .int l2, .int (l3 + 1), .int (l4 + 1)]) (dk D114 17 rfl) rfl nd114_5 rfl).trans ?_
    exact rfl
set_option maxRecDepth 20000 in
theorem D115 : dOK 115 [(0, .aload_n 0, 1), (1, .iload_n 1, 1), (2, .iload_n 2, 1), (3, .invokevirtual 253, 3), (6, .iconst 1, 1), (7, .isub, 1), (8, .istore_n 3, 1), (9, .ldc_w 256, 3), (12, .istore 4, 2), (14, .iconst 0, 1), (15, .istore 5, 2), (17, .iconst 0, 1), (18, .istore 6, 2), (20, .iload 6, 2), (22, .aload_n 0, 1), (23, .getfield 9, 3), (26, .getfield 77, 3), (29, .if_icmp .ge 60, 3), (32, .aload_n 0, 1), (33, .iload 6, 2), (35, .iload_n 1, 1), (36, .iload_n 2, 1), (37, .invokevirtual 249, 3), (40, .ifCond .eq 43, 3), (43, .iload 4, 2), (45, .aload_n 0, 1), (46, .getfield 9, 3), (49, .getfield 137, 3), (52, .iload 6, 2), (54, .aaload, 1), (55, .getfield 257, 3), (58, .invokestatic 106, 3), (61, .istore 4, 2), (63, .iload 5, 2), (65, .aload_n 0, 1), (66, .getfield 9, 3), (69, .getfield 137, 3), (72, .iload 6, 2), (74, .aaload, 1), (75, .getfield 257, 3), (78, .invokestatic 101, 3), (81, .istore 5, 2), (83, .iinc 6 1, 3), (86, .goto (-66), 3), (89, .iload 5, 2), (91, .iload 4, 2), (93, .isub, 1), (94, .i2l, 1), (95, .iload_n 3, 1), (96, .i2l, 1), (97, .invokestatic 260, 3), (100, .l2i, 1), (101, .ireturn, 1)] = true := by decide +kernel
theorem E115_0 {d sl : Nat} {p : Nat → Nat} {I : Nat → Nat → Int32} {J : Nat → Nat → Int64} (a1 : Int32) (a2 : Int32)  : den (d + 1) 115 [.ref 11, .int a1, .int a2] (S sl p I J) = evK (d + 1) 115 6 [.ref 11, .int a1, .int a2, .retAddr 0, .retAddr 0, .retAddr 0, .retAddr 0] [] (den d 114 [.ref 11, .int a1, .int a2] (S sl p I J)) := by
  refine (show den (d + 1) 115 [.ref 11, .int a1, .int a2] (S sl p I J) = ev (d + 1) 115 0 [.ref 11, .int a1, .int a2, .retAddr 0, .retAddr 0, .retAddr 0, .retAddr 0] [] (S sl p I J) from rfl).trans ?_
  refine (r_aln (dk D115 0 rfl) rfl).trans ?_
  refine (r_iln (dk D115 1 rfl) rfl).trans ?_
  refine (r_iln (dk D115 2 rfl) rfl).trans ?_
  exact r_cv (dk D115 3 rfl) ow115 c10_253 mf114 (Nat.le_of_ble_eq_true rfl) rfl rfl (Nat.le_of_ble_eq_true rfl) (Nat.le_of_ble_eq_true rfl) ob_11
theorem E115_6 {d sl : Nat} {p : Nat → Nat} {I : Nat → Nat → Int32} {J : Nat → Nat → Int64} (l1 : Int32) (l2 : Int32) (s0 : Int32)  : ev d 115 6 [.ref 11, .int l1, .int l2, .retAddr 0, .retAddr 0, .retAddr 0, .retAddr 0] [.int s0] (S sl p I J) = ev d 115 20 [.ref 11, .int l1, .int l2, .int (s0 - 1), .int 100000, .int 0, .int 0] [] (S sl p I J) := by
  refine (r_ic (dk D115 4 rfl) ci1).trans ?_
  refine (r_isub (dk D115 5 rfl)).trans ?_
  refine (r_isn (L' := [.ref 11, .int l1, .int l2, .int (s0 - 1), .retAddr 0, .retAddr 0, .retAddr 0]) (dk D115 6 rfl) (Nat.le_of_ble_eq_true rfl) rfl).trans ?_
  refine (r_ldcw (dk D115 7 rfl) ow115 k10_256).trans ?_
  refine (r_is (L' := [.ref 11, .int l1, .int l2, .int (s0 - 1), .int 100000, .retAddr 0, .retAddr 0]) (dk D115 8 rfl) (Nat.le_of_ble_eq_true rfl) rfl).trans ?_
  refine (r_ic (dk D115 9 rfl) ci0).trans ?_
  refine (r_is (L' := [.ref 11, .int l1, .int l2, .int (s0 - 1), .int 100000, .int 0, .retAddr 0]) (dk D115 10 rfl) (Nat.le_of_ble_eq_true rfl) rfl).trans ?_
  refine (r_ic (dk D115 11 rfl) ci0).trans ?_
  refine (r_is (L' := [.ref 11, .int l1, .int l2, .int (s0 - 1), .int 100000, .int 0, .int 0]) (dk D115 12 rfl) (Nat.le_of_ble_eq_true rfl) rfl).trans ?_
  exact rfl
theorem E115_20 {d sl : Nat} {p : Nat → Nat} {I : Nat → Nat → Int32} {J : Nat → Nat → Int64} (l1 : Int32) (l2 : Int32) (l3 : Int32) (l4 : Int32) (l5 : Int32) (l6 : Int32)  : ev (d + 1) 115 20 [.ref 11, .int l1, .int l2, .int l3, .int l4, .int l5, .int l6] [] (S sl p I J) = (if l6 < (I 4 8) then evK (d + 1) 115 40 [.ref 11, .int l1, .int l2, .int l3, .int l4, .int l5, .int l6] [] (den d 113 [.ref 11, .int l6, .int l1, .int l2] (S sl p I J)) else evK (d + 1) 115 100 [.ref 11, .int l1, .int l2, .int l3, .int l4, .int l5, .int l6] [] (den d 170 [.long (Int32.toInt64 (l5 - l4)), .long (Int32.toInt64 l3)] (S sl p I J))) := by
  refine (r_il (dk D115 13 rfl) rfl).trans ?_
  refine (r_aln (dk D115 14 rfl) rfl).trans ?_
  refine (r_getR (dk D115 15 rfl) ow115 q10_9 ob_11 rfl).trans ?_
  refine (r_getI (dk D115 16 rfl) ow115 q10_77 ob_4).trans ?_
  refine (r_ge (dk D115 17 rfl) rfl).trans (ite2 ?_ ?_)
  · refine (r_aln (dk D115 18 rfl) rfl).trans ?_
    refine (r_il (dk D115 19 rfl) rfl).trans ?_
    refine (r_iln (dk D115 20 rfl) rfl).trans ?_
    refine (r_iln (dk D115 21 rfl) rfl).trans ?_
    exact r_cv (dk D115 22 rfl) ow115 c10_249 mf113 (Nat.le_of_ble_eq_true rfl) rfl rfl (Nat.le_of_ble_eq_true rfl) (Nat.le_of_ble_eq_true rfl) ob_11
  · refine (r_il (dk D115 44 rfl) rfl).trans ?_
    refine (r_il (dk D115 45 rfl) rfl).trans ?_
    refine (r_isub (dk D115 46 rfl)).trans ?_
    refine (r_i2l (dk D115 47 rfl)).trans ?_
    refine (r_iln (dk D115 48 rfl) rfl).trans ?_
    refine (r_i2l (dk D115 49 rfl)).trans ?_
    exact r_cs (dk D115 50 rfl) ow115 pn10_260 c10_260 mf170 (Nat.le_of_ble_eq_true rfl) rfl rfl (Nat.le_of_ble_eq_true rfl) (Nat.le_of_ble_eq_true rfl)
theorem E115_40 {d sl : Nat} {p : Nat → Nat} {I : Nat → Nat → Int32} {J : Nat → Nat → Int64} (l1 : Int32) (l2 : Int32) (l3 : Int32) (l4 : Int32) (l5 : Int32) (l6 : Int32) (s0 : Int32) (hp : ∀ k, p k < 60)  : ev (d + 1) 115 40 [.ref 11, .int l1, .int l2, .int l3, .int l4, .int l5, .int l6] [.int s0] (S sl p I J) = (if s0 = 0 then ev (d + 1) 115 20 [.ref 11, .int l1, .int l2, .int l3, .int l4, .int l5, .int (l6 + 1)] [] (S sl p I J) else ck (ixb 60 l6) (ck (ixb 60 l6) (ev (d + 1) 115 20 [.ref 11, .int l1, .int l2, .int l3, .int (if (I (200 + p (Int32.toNatClampNeg l6)) 5) < l4 then (I (200 + p (Int32.toNatClampNeg l6)) 5) else l4), .int (if l5 < (I (200 + p (Int32.toNatClampNeg l6)) 5) then (I (200 + p (Int32.toNatClampNeg l6)) 5) else l5), .int (l6 + 1)] [] (S sl p I J)))) := by
  refine (r_eq0 (dk D115 23 rfl) rfl).trans (ite2 ?_ ?_)
  · refine (r_inc (L' := [.ref 11, .int l1, .int l2, .int l3, .int l4, .int l5, .int (l6 + 1)]) (dk D115 42 rfl) rfl rfl ci1 (Nat.le_of_ble_eq_true rfl) rfl).trans ?_
    refine (r_goto (L' := [.ref 11, .int l1, .int l2, .int l3, .int l4, .int l5, .int (l6 + 1)]) (dk D115 43 rfl) rfl nd115_20 rfl).trans ?_
    exact rfl
  · refine (r_il (dk D115 24 rfl) rfl).trans ?_
    refine (r_aln (dk D115 25 rfl) rfl).trans ?_
    refine (r_getR (dk D115 26 rfl) ow115 q10_9 ob_11 rfl).trans ?_
    refine (r_getR (dk D115 27 rfl) ow115 q10_137 ob_4 rfl).trans ?_
    refine (r_il (dk D115 28 rfl) rfl).trans ?_
    refine (r_ald (dk D115 29 rfl) ar_9 (by decide) rfA9).trans (ck3 fun g1 => ?_)
    refine (r_getI (dk D115 30 rfl) ow115 q10_257 (obC (hp (Int32.toNatClampNeg l6)))).trans ?_
    refine (r_prm (st' := [.int (if (I (200 + p (Int32.toNatClampNeg l6)) 5) < l4 then (I (200 + p (Int32.toNatClampNeg l6)) 5) else l4)]) (dk D115 31 rfl) ow115 p10_106 (Nat.le_of_ble_eq_true rfl) rfl).trans ?_
    refine (r_is (L' := [.ref 11, .int l1, .int l2, .int l3, .int (if (I (200 + p (Int32.toNatClampNeg l6)) 5) < l4 then (I (200 + p (Int32.toNatClampNeg l6)) 5) else l4), .int l5, .int l6]) (dk D115 32 rfl) (Nat.le_of_ble_eq_true rfl) rfl).trans ?_
    refine (r_il (dk D115 33 rfl) rfl).trans ?_
    refine (r_aln (dk D115 34 rfl) rfl).trans ?_
    refine (r_getR (dk D115 35 rfl) ow115 q10_9 ob_11 rfl).trans ?_
    refine (r_getR (dk D115 36 rfl) ow115 q10_137 ob_4 rfl).trans ?_
    refine (r_il (dk D115 37 rfl) rfl).trans ?_
    refine (r_ald (dk D115 38 rfl) ar_9 (by decide) rfA9).trans (ck3 fun g2 => ?_)
    refine (r_getI (dk D115 39 rfl) ow115 q10_257 (obC (hp (Int32.toNatClampNeg l6)))).trans ?_
    refine (r_prm (st' := [.int (if l5 < (I (200 + p (Int32.toNatClampNeg l6)) 5) then (I (200 + p (Int32.toNatClampNeg l6)) 5) else l5)]) (dk D115 40 rfl) ow115 p10_101 (Nat.le_of_ble_eq_true rfl) rfl).trans ?_
    refine (r_is (L' := [.ref 11, .int l1, .int l2, .int l3, .int (if (I (200 + p (Int32.toNatClampNeg l6)) 5) < l4 then (I (200 + p (Int32.toNatClampNeg l6)) 5) else l4), .int (if l5 < (I (200 + p (Int32.toNatClampNeg l6)) 5) then (I (200 + p (Int32.toNatClampNeg l6)) 5) else l5), .int l6]) (dk D115 41 rfl) (Nat.le_of_ble_eq_true rfl) rfl).trans ?_
    refine (r_inc (L' := [.ref 11, .int l1, .int l2, .int l3, .int (if (I (200 + p (Int32.toNatClampNeg l6)) 5) < l4 then (I (200 + p (Int32.toNatClampNeg l6)) 5) else l4), .int (if l5 < (I (200 + p (Int32.toNatClampNeg l6)) 5) then (I (200 + p (Int32.toNatClampNeg l6)) 5) else l5), .int (l6 + 1)]) (dk D115 42 rfl) rfl rfl ci1 (Nat.le_of_ble_eq_true rfl) rfl).trans ?_
    refine (r_goto (L' := [.ref 11, .int l1, .int l2, .int l3, .int (if (I (200 + p (Int32.toNatClampNeg l6)) 5) < l4 then (I (200 + p (Int32.toNatClampNeg l6)) 5) else l4), .int (if l5 < (I (200 + p (Int32.toNatClampNeg l6)) 5) then (I (200 + p (Int32.toNatClampNeg l6)) 5) else l5), .int (l6 + 1)]) (dk D115 43 rfl) rfl nd115_20 rfl).trans ?_
    exact rfl
theorem E115_100 {d sl : Nat} {p : Nat → Nat} {I : Nat → Nat → Int32} {J : Nat → Nat → Int64} (l1 : Int32) (l2 : Int32) (l3 : Int32) (l4 : Int32) (l5 : Int32) (l6 : Int32) (s0 : Int64)  : ev d 115 100 [.ref 11, .int l1, .int l2, .int l3, .int l4, .int l5, .int l6] [.long s0] (S sl p I J) = some (some (.int (Int64.toInt32 s0)), (S sl p I J)) := by
  refine (r_l2i (dk D115 51 rfl)).trans ?_
  exact r_ret (dk D115 52 rfl) rt115
set_option maxRecDepth 20000 in
theorem D116 : dOK 116 [(0, .aload_n 0, 1), (1, .iload_n 1, 1), (2, .invokevirtual 159, 3), (5, .getfield 36, 3), (8, .aload_n 0, 1), (9, .getfield 9, 3), (12, .getfield 264, 3), (15, .iload_n 2, 1), (16, .aaload, 1), (17, .invokestatic 267, 3), (20, .lstore_n 3, 1), (21, .aload_n 0, 1), (22, .iload_n 1, 1), (23, .iload_n 2, 1), (24, .invokevirtual 271, 3), (27, .i2l, 1), (28, .lload_n 3, 1), (29, .lmul, 1), (30, .ldc2_w 274, 3), (33, .ldiv, 1), (34, .l2i, 1), (35, .ireturn, 1)] = true := by decide +kernel
theorem E116_0 {d sl : Nat} {p : Nat → Nat} {I : Nat → Nat → Int32} {J : Nat → Nat → Int64} (a1 : Int32) (a2 : Int32)  : den (d + 1) 116 [.ref 11, .int a1, .int a2] (S sl p I J) = evK (d + 1) 116 5 [.ref 11, .int a1, .int a2, .retAddr 0, .retAddr 0] [] (den d 105 [.ref 11, .int a1] (S sl p I J)) := by
  refine (show den (d + 1) 116 [.ref 11, .int a1, .int a2] (S sl p I J) = ev (d + 1) 116 0 [.ref 11, .int a1, .int a2, .retAddr 0, .retAddr 0] [] (S sl p I J) from rfl).trans ?_
  refine (r_aln (dk D116 0 rfl) rfl).trans ?_
  refine (r_iln (dk D116 1 rfl) rfl).trans ?_
  exact r_cv (dk D116 2 rfl) ow116 c10_159 mf105 (Nat.le_of_ble_eq_true rfl) rfl rfl (Nat.le_of_ble_eq_true rfl) (Nat.le_of_ble_eq_true rfl) ob_11
theorem E116_5 {d sl : Nat} {p : Nat → Nat} {I : Nat → Nat → Int32} {J : Nat → Nat → Int64} (l1 : Int32) (l2 : Int32) {s0 : Nat} (hs0 : s0 < 30) : ev (d + 1) 116 5 [.ref 11, .int l1, .int l2, .retAddr 0, .retAddr 0] [.ref (400 + s0)] (S sl p I J) = ck (ixb 6 l2) (evK (d + 1) 116 20 [.ref 11, .int l1, .int l2, .retAddr 0, .retAddr 0] [] (den d 172 [.ref (800 + s0), .ref (100 + (Int32.toNatClampNeg l2))] (S sl p I J))) := by
  refine (r_getR (dk D116 3 rfl) ow116 q10_36 (obG hs0) (rfG2 hs0)).trans ?_
  refine (r_aln (dk D116 4 rfl) rfl).trans ?_
  refine (r_getR (dk D116 5 rfl) ow116 q10_9 ob_11 rfl).trans ?_
  refine (r_getR (dk D116 6 rfl) ow116 q10_264 ob_4 rfl).trans ?_
  refine (r_iln (dk D116 7 rfl) rfl).trans ?_
  refine (r_ald (dk D116 8 rfl) ar_8 (by decide) rfA8).trans (ck3 fun g1 => ?_)
  exact r_cs (dk D116 9 rfl) ow116 pn10_267 c10_267 mf172 (Nat.le_of_ble_eq_true rfl) rfl rfl (Nat.le_of_ble_eq_true rfl) (Nat.le_of_ble_eq_true rfl)
theorem E116_20 {d sl : Nat} {p : Nat → Nat} {I : Nat → Nat → Int32} {J : Nat → Nat → Int64} (l1 : Int32) (l2 : Int32) (s0 : Int64)  : ev (d + 1) 116 20 [.ref 11, .int l1, .int l2, .retAddr 0, .retAddr 0] [.long s0] (S sl p I J) = evK (d + 1) 116 27 [.ref 11, .int l1, .int l2, .long s0, .retAddr 0] [] (den d 115 [.ref 11, .int l1, .int l2] (S sl p I J)) := by
  refine (r_lsn (L' := [.ref 11, .int l1, .int l2, .long s0, .retAddr 0]) (dk D116 10 rfl) (Nat.le_of_ble_eq_true rfl) rfl).trans ?_
  refine (r_aln (dk D116 11 rfl) rfl).trans ?_
  refine (r_iln (dk D116 12 rfl) rfl).trans ?_
  refine (r_iln (dk D116 13 rfl) rfl).trans ?_
  exact r_cv (dk D116 14 rfl) ow116 c10_271 mf115 (Nat.le_of_ble_eq_true rfl) rfl rfl (Nat.le_of_ble_eq_true rfl) (Nat.le_of_ble_eq_true rfl) ob_11
theorem E116_27 {d sl : Nat} {p : Nat → Nat} {I : Nat → Nat → Int32} {J : Nat → Nat → Int64} (l1 : Int32) (l2 : Int32) (l3 : Int64) (s0 : Int32)  : ev d 116 27 [.ref 11, .int l1, .int l2, .long l3, .retAddr 0] [.int s0] (S sl p I J) = some (some (.int (Int64.toInt32 (((Int32.toInt64 s0) * l3) / 1000))), (S sl p I J)) := by
  refine (r_i2l (dk D116 15 rfl)).trans ?_
  refine (r_lln (dk D116 16 rfl) rfl).trans ?_
  refine (r_lmul (dk D116 17 rfl)).trans ?_
  refine (r_ld2 (dk D116 18 rfl) ow116 kk10_274).trans ?_
  refine (r_ldiv (dk D116 19 rfl) (by decide)).trans ?_
  refine (r_l2i (dk D116 20 rfl)).trans ?_
  exact r_ret (dk D116 21 rfl) rt116
