set_option maxRecDepth 20000 in
theorem D22 : dOK 22 [(0, .aload_n 0, 1), (1, .getfield 19, 3), (4, .iload_n 2, 1), (5, .invokevirtual 46, 3), (8, .i2l, 1), (9, .lstore 4, 2), (11, .aload_n 0, 1), (12, .getfield 19, 3), (15, .iload_n 2, 1), (16, .invokevirtual 52, 3), (19, .i2l, 1), (20, .lstore 6, 2), (22, .ldc2_w 55, 3), (25, .lload 4, 2), (27, .lsub, 1), (28, .lstore 8, 2), (30, .aload_n 0, 1), (31, .getfield 26, 3), (34, .aload_n 1, 1), (35, .invokevirtual 57, 3), (38, .ldc2_w 55, 3), (41, .ldiv, 1), (42, .lstore 10, 2), (44, .aload_n 0, 1), (45, .getfield 30, 3), (48, .aload_n 0, 1), (49, .getfield 26, 3), (52, .aload_n 1, 1), (53, .invokevirtual 61, 3), (56, .aload_n 3, 1), (57, .aload_n 1, 1), (58, .getfield 65, 3), (61, .lload 4, 2), (63, .lmul, 1), (64, .aload_n 0, 1), (65, .getfield 30, 3), (68, .getfield 65, 3), (71, .lload 6, 2), (73, .lmul, 1), (74, .ladd, 1), (75, .aload_n 0, 1), (76, .getfield 26, 3), (79, .getfield 65, 3), (82, .lload 10, 2), (84, .lmul, 1), (85, .ldc2_w 55, 3), (88, .ldiv, 1), (89, .lload 8, 2), (91, .lmul, 1), (92, .ladd, 1), (93, .ldc2_w 55, 3), (96, .ldiv, 1), (97, .aload_n 1, 1), (98, .getfield 69, 3), (101, .lload 4, 2), (103, .lmul, 1), (104, .aload_n 0, 1), (105, .getfield 30, 3), (108, .getfield 69, 3), (111, .lload 6, 2), (113, .lmul, 1), (114, .ladd, 1), (115, .aload_n 0, 1), (116, .getfield 26, 3), (119, .getfield 69, 3), (122, .lload 10, 2), (124, .lmul, 1), (125, .ldc2_w 55, 3), (128, .ldiv, 1), (129, .lload 8, 2), (131, .lmul, 1), (132, .ladd, 1), (133, .ldc2_w 55, 3), (136, .ldiv, 1), (137, .aload_n 1, 1), (138, .getfield 72, 3), (141, .lload 4, 2), (143, .lmul, 1), (144, .aload_n 0, 1), (145, .getfield 30, 3), (148, .getfield 72, 3), (151, .lload 6, 2), (153, .lmul, 1), (154, .ladd, 1), (155, .aload_n 0, 1), (156, .getfield 26, 3), (159, .getfield 72, 3), (162, .lload 10, 2), (164, .lmul, 1), (165, .ldc2_w 55, 3), (168, .ldiv, 1), (169, .lload 8, 2), (171, .lmul, 1), (172, .ladd, 1), (173, .ldc2_w 55, 3), (176, .ldiv, 1), (177, .invokevirtual 75, 3), (180, .return_, 1)] = true := by decide +kernel
theorem E22_0 {d sl : Nat} {p : Nat → Nat} {I : Nat → Nat → Int32} {J : Nat → Nat → Int64} {a1 : Nat} (a2 : Int32) {a3 : Nat} (h1 : ob a1 0) (h3 : ob a3 0) : den (d + 1) 22 [.ref 38, .ref a1, .int a2, .ref a3] (S sl p I J) = evK (d + 1) 22 8 [.ref 38, .ref a1, .int a2, .ref a3, .retAddr 0, .retAddr 0, .retAddr 0, .retAddr 0, .retAddr 0, .retAddr 0, .retAddr 0, .retAddr 0] [] (den d 27 [.ref 2, .int a2] (S sl p I J)) := by
  refine (show den (d + 1) 22 [.ref 38, .ref a1, .int a2, .ref a3] (S sl p I J) = ev (d + 1) 22 0 [.ref 38, .ref a1, .int a2, .ref a3, .retAddr 0, .retAddr 0, .retAddr 0, .retAddr 0, .retAddr 0, .retAddr 0, .retAddr 0, .retAddr 0] [] (S sl p I J) from rfl).trans ?_
  refine (r_aln (dk D22 0 rfl) rfl).trans ?_
  refine (r_getR (dk D22 1 rfl) ow22 q4_19 ob_38 rfl).trans ?_
  refine (r_iln (dk D22 2 rfl) rfl).trans ?_
  exact r_cv (dk D22 3 rfl) ow22 c4_46 mf27 (Nat.le_of_ble_eq_true rfl) rfl rfl (Nat.le_of_ble_eq_true rfl) (Nat.le_of_ble_eq_true rfl) ob_2
theorem E22_8 {d sl : Nat} {p : Nat → Nat} {I : Nat → Nat → Int32} {J : Nat → Nat → Int64} {l1 : Nat} (l2 : Int32) {l3 : Nat} (s0 : Int32) (hl1 : ob l1 0) (hl3 : ob l3 0) : ev (d + 1) 22 8 [.ref 38, .ref l1, .int l2, .ref l3, .retAddr 0, .retAddr 0, .retAddr 0, .retAddr 0, .retAddr 0, .retAddr 0, .retAddr 0, .retAddr 0] [.int s0] (S sl p I J) = evK (d + 1) 22 19 [.ref 38, .ref l1, .int l2, .ref l3, .long (Int32.toInt64 s0), .retAddr 0, .retAddr 0, .retAddr 0, .retAddr 0, .retAddr 0, .retAddr 0, .retAddr 0] [] (den d 26 [.ref 2, .int l2] (S sl p I J)) := by
  refine (r_i2l (dk D22 4 rfl)).trans ?_
  refine (r_ls (L' := [.ref 38, .ref l1, .int l2, .ref l3, .long (Int32.toInt64 s0), .retAddr 0, .retAddr 0, .retAddr 0, .retAddr 0, .retAddr 0, .retAddr 0, .retAddr 0]) (dk D22 5 rfl) (Nat.le_of_ble_eq_true rfl) rfl).trans ?_
  refine (r_aln (dk D22 6 rfl) rfl).trans ?_
  refine (r_getR (dk D22 7 rfl) ow22 q4_19 ob_38 rfl).trans ?_
  refine (r_iln (dk D22 8 rfl) rfl).trans ?_
  exact r_cv (dk D22 9 rfl) ow22 c4_52 mf26 (Nat.le_of_ble_eq_true rfl) rfl rfl (Nat.le_of_ble_eq_true rfl) (Nat.le_of_ble_eq_true rfl) ob_2
theorem E22_19 {d sl : Nat} {p : Nat → Nat} {I : Nat → Nat → Int32} {J : Nat → Nat → Int64} {l1 : Nat} (l2 : Int32) {l3 : Nat} (l4 : Int64) (s0 : Int32) (hl1 : ob l1 0) (hl3 : ob l3 0) : ev (d + 1) 22 19 [.ref 38, .ref l1, .int l2, .ref l3, .long l4, .retAddr 0, .retAddr 0, .retAddr 0, .retAddr 0, .retAddr 0, .retAddr 0, .retAddr 0] [.int s0] (S sl p I J) = evK (d + 1) 22 38 [.ref 38, .ref l1, .int l2, .ref l3, .long l4, .retAddr 0, .long (Int32.toInt64 s0), .retAddr 0, .long (1000 - l4), .retAddr 0, .retAddr 0, .retAddr 0] [] (den d 4 [.ref 39, .ref l1] (S sl p I J)) := by
  refine (r_i2l (dk D22 10 rfl)).trans ?_
  refine (r_ls (L' := [.ref 38, .ref l1, .int l2, .ref l3, .long l4, .retAddr 0, .long (Int32.toInt64 s0), .retAddr 0, .retAddr 0, .retAddr 0, .retAddr 0, .retAddr 0]) (dk D22 11 rfl) (Nat.le_of_ble_eq_true rfl) rfl).trans ?_
  refine (r_ld2 (dk D22 12 rfl) ow22 kk4_55).trans ?_
  refine (r_ll (dk D22 13 rfl) rfl).trans ?_
  refine (r_lsub (dk D22 14 rfl)).trans ?_
  refine (r_ls (L' := [.ref 38, .ref l1, .int l2, .ref l3, .long l4, .retAddr 0, .long (Int32.toInt64 s0), .retAddr 0, .long (1000 - l4), .retAddr 0, .retAddr 0, .retAddr 0]) (dk D22 15 rfl) (Nat.le_of_ble_eq_true rfl) rfl).trans ?_
  refine (r_aln (dk D22 16 rfl) rfl).trans ?_
  refine (r_getR (dk D22 17 rfl) ow22 q4_26 ob_38 rfl).trans ?_
  refine (r_aln (dk D22 18 rfl) rfl).trans ?_
  exact r_cv (dk D22 19 rfl) ow22 c4_57 mf4 (Nat.le_of_ble_eq_true rfl) rfl rfl (Nat.le_of_ble_eq_true rfl) (Nat.le_of_ble_eq_true rfl) ob_39
theorem E22_38 {d sl : Nat} {p : Nat → Nat} {I : Nat → Nat → Int32} {J : Nat → Nat → Int64} {l1 : Nat} (l2 : Int32) {l3 : Nat} (l4 : Int64) (l6 : Int64) (l8 : Int64) (s0 : Int64) (hl1 : ob l1 0) (hl3 : ob l3 0) : ev (d + 1) 22 38 [.ref 38, .ref l1, .int l2, .ref l3, .long l4, .retAddr 0, .long l6, .retAddr 0, .long l8, .retAddr 0, .retAddr 0, .retAddr 0] [.long s0] (S sl p I J) = evK (d + 1) 22 56 [.ref 38, .ref l1, .int l2, .ref l3, .long l4, .retAddr 0, .long l6, .retAddr 0, .long l8, .retAddr 0, .long (s0 / 1000), .retAddr 0] [] (den d 7 [.ref 40, .ref 39, .ref l1] (S sl p I J)) := by
  refine (r_ld2 (dk D22 20 rfl) ow22 kk4_55).trans ?_
  refine (r_ldiv (dk D22 21 rfl) (by decide)).trans ?_
  refine (r_ls (L' := [.ref 38, .ref l1, .int l2, .ref l3, .long l4, .retAddr 0, .long l6, .retAddr 0, .long l8, .retAddr 0, .long (s0 / 1000), .retAddr 0]) (dk D22 22 rfl) (Nat.le_of_ble_eq_true rfl) rfl).trans ?_
  refine (r_aln (dk D22 23 rfl) rfl).trans ?_
  refine (r_getR (dk D22 24 rfl) ow22 q4_30 ob_38 rfl).trans ?_
  refine (r_aln (dk D22 25 rfl) rfl).trans ?_
  refine (r_getR (dk D22 26 rfl) ow22 q4_26 ob_38 rfl).trans ?_
  refine (r_aln (dk D22 27 rfl) rfl).trans ?_
  exact r_cv (dk D22 28 rfl) ow22 c4_61 mf7 (Nat.le_of_ble_eq_true rfl) rfl rfl (Nat.le_of_ble_eq_true rfl) (Nat.le_of_ble_eq_true rfl) ob_40
theorem E22_56 {d sl : Nat} {p : Nat → Nat} {I : Nat → Nat → Int32} {J : Nat → Nat → Int64} {l1 : Nat} (l2 : Int32) {l3 : Nat} (l4 : Int64) (l6 : Int64) (l8 : Int64) (l10 : Int64) (hl1 : ob l1 0) (hl3 : ob l3 0) : ev (d + 1) 22 56 [.ref 38, .ref l1, .int l2, .ref l3, .long l4, .retAddr 0, .long l6, .retAddr 0, .long l8, .retAddr 0, .long l10, .retAddr 0] [] (S sl p I J) = evK (d + 1) 22 180 [.ref 38, .ref l1, .int l2, .ref l3, .long l4, .retAddr 0, .long l6, .retAddr 0, .long l8, .retAddr 0, .long l10, .retAddr 0] [] (den d 1 [.ref l3, .long (((((J l1 0) * l4) + ((J 40 0) * l6)) + ((((J 39 0) * l10) / 1000) * l8)) / 1000), .long (((((J l1 1) * l4) + ((J 40 1) * l6)) + ((((J 39 1) * l10) / 1000) * l8)) / 1000), .long (((((J l1 2) * l4) + ((J 40 2) * l6)) + ((((J 39 2) * l10) / 1000) * l8)) / 1000)] (S sl p I J)) := by
  refine (r_aln (dk D22 29 rfl) rfl).trans ?_
  refine (r_aln (dk D22 30 rfl) rfl).trans ?_
  refine (r_getJ (dk D22 31 rfl) ow22 q4_65 hl1).trans ?_
  refine (r_ll (dk D22 32 rfl) rfl).trans ?_
  refine (r_lmul (dk D22 33 rfl)).trans ?_
  refine (r_aln (dk D22 34 rfl) rfl).trans ?_
  refine (r_getR (dk D22 35 rfl) ow22 q4_30 ob_38 rfl).trans ?_
  refine (r_getJ (dk D22 36 rfl) ow22 q4_65 ob_40).trans ?_
  refine (r_ll (dk D22 37 rfl) rfl).trans ?_
  refine (r_lmul (dk D22 38 rfl)).trans ?_
  refine (r_ladd (dk D22 39 rfl)).trans ?_
  refine (r_aln (dk D22 40 rfl) rfl).trans ?_
  refine (r_getR (dk D22 41 rfl) ow22 q4_26 ob_38 rfl).trans ?_
  refine (r_getJ (dk D22 42 rfl) ow22 q4_65 ob_39).trans ?_
  refine (r_ll (dk D22 43 rfl) rfl).trans ?_
  refine (r_lmul (dk D22 44 rfl)).trans ?_
  refine (r_ld2 (dk D22 45 rfl) ow22 kk4_55).trans ?_
  refine (r_ldiv (dk D22 46 rfl) (by decide)).trans ?_
  refine (r_ll (dk D22 47 rfl) rfl).trans ?_
  refine (r_lmul (dk D22 48 rfl)).trans ?_
  refine (r_ladd (dk D22 49 rfl)).trans ?_
  refine (r_ld2 (dk D22 50 rfl) ow22 kk4_55).trans ?_
  refine (r_ldiv (dk D22 51 rfl) (by decide)).trans ?_
  refine (r_aln (dk D22 52 rfl) rfl).trans ?_
  refine (r_getJ (dk D22 53 rfl) ow22 q4_69 hl1).trans ?_
  refine (r_ll (dk D22 54 rfl) rfl).trans ?_
  refine (r_lmul (dk D22 55 rfl)).trans ?_
  refine (r_aln (dk D22 56 rfl) rfl).trans ?_
  refine (r_getR (dk D22 57 rfl) ow22 q4_30 ob_38 rfl).trans ?_
  refine (r_getJ (dk D22 58 rfl) ow22 q4_69 ob_40).trans ?_
  refine (r_ll (dk D22 59 rfl) rfl).trans ?_
  refine (r_lmul (dk D22 60 rfl)).trans ?_
  refine (r_ladd (dk D22 61 rfl)).trans ?_
  refine (r_aln (dk D22 62 rfl) rfl).trans ?_
  refine (r_getR (dk D22 63 rfl) ow22 q4_26 ob_38 rfl).trans ?_
  refine (r_getJ (dk D22 64 rfl) ow22 q4_69 ob_39).trans ?_
  refine (r_ll (dk D22 65 rfl) rfl).trans ?_
  refine (r_lmul (dk D22 66 rfl)).trans ?_
  refine (r_ld2 (dk D22 67 rfl) ow22 kk4_55).trans ?_
  refine (r_ldiv (dk D22 68 rfl) (by decide)).trans ?_
  refine (r_ll (dk D22 69 rfl) rfl).trans ?_
  refine (r_lmul (dk D22 70 rfl)).trans ?_
  refine (r_ladd (dk D22 71 rfl)).trans ?_
  refine (r_ld2 (dk D22 72 rfl) ow22 kk4_55).trans ?_
  refine (r_ldiv (dk D22 73 rfl) (by decide)).trans ?_
  refine (r_aln (dk D22 74 rfl) rfl).trans ?_
  refine (r_getJ (dk D22 75 rfl) ow22 q4_72 hl1).trans ?_
  refine (r_ll (dk D22 76 rfl) rfl).trans ?_
  refine (r_lmul (dk D22 77 rfl)).trans ?_
  refine (r_aln (dk D22 78 rfl) rfl).trans ?_
  refine (r_getR (dk D22 79 rfl) ow22 q4_30 ob_38 rfl).trans ?_
  refine (r_getJ (dk D22 80 rfl) ow22 q4_72 ob_40).trans ?_
  refine (r_ll (dk D22 81 rfl) rfl).trans ?_
  refine (r_lmul (dk D22 82 rfl)).trans ?_
  refine (r_ladd (dk D22 83 rfl)).trans ?_
  refine (r_aln (dk D22 84 rfl) rfl).trans ?_
  refine (r_getR (dk D22 85 rfl) ow22 q4_26 ob_38 rfl).trans ?_
  refine (r_getJ (dk D22 86 rfl) ow22 q4_72 ob_39).trans ?_
  refine (r_ll (dk D22 87 rfl) rfl).trans ?_
  refine (r_lmul (dk D22 88 rfl)).trans ?_
  refine (r_ld2 (dk D22 89 rfl) ow22 kk4_55).trans ?_
  refine (r_ldiv (dk D22 90 rfl) (by decide)).trans ?_
  refine (r_ll (dk D22 91 rfl) rfl).trans ?_
  refine (r_lmul (dk D22 92 rfl)).trans ?_
  refine (r_ladd (dk D22 93 rfl)).trans ?_
  refine (r_ld2 (dk D22 94 rfl) ow22 kk4_55).trans ?_
  refine (r_ldiv (dk D22 95 rfl) (by decide)).trans ?_
  exact r_cv (dk D22 96 rfl) ow22 c4_75 mf1 (Nat.le_of_ble_eq_true rfl) rfl rfl (Nat.le_of_ble_eq_true rfl) (Nat.le_of_ble_eq_true rfl) hl3
theorem E22_180 {d sl : Nat} {p : Nat → Nat} {I : Nat → Nat → Int32} {J : Nat → Nat → Int64} {l1 : Nat} (l2 : Int32) {l3 : Nat} (l4 : Int64) (l6 : Int64) (l8 : Int64) (l10 : Int64) (hl1 : ob l1 0) (hl3 : ob l3 0) : ev d 22 180 [.ref 38, .ref l1, .int l2, .ref l3, .long l4, .retAddr 0, .long l6, .retAddr 0, .long l8, .retAddr 0, .long l10, .retAddr 0] [] (S sl p I J) = some (none, (S sl p I J)) := by
  exact r_rev (dk D22 97 rfl) rt22
set_option maxRecDepth 20000 in
theorem D23 : dOK 23 [(0, .aload_n 0, 1), (1, .getfield 26, 3), (4, .aload_n 0, 1), (5, .getfield 19, 3), (8, .iload_n 3, 1), (9, .invokevirtual 46, 3), (12, .i2l, 1), (13, .aload_n 0, 1), (14, .getfield 19, 3), (17, .iload_n 3, 1), (18, .invokevirtual 52, 3), (21, .i2l, 1), (22, .lconst 0, 1), (23, .invokevirtual 75, 3), (26, .aload_n 0, 1), (27, .aload_n 0, 1), (28, .getfield 15, 3), (31, .getfield 79, 3), (34, .iload_n 1, 1), (35, .aaload, 1), (36, .iload 4, 2), (38, .aload_n 0, 1), (39, .getfield 36, 3), (42, .invokevirtual 85, 3), (45, .aload_n 0, 1), (46, .getfield 42, 3), (49, .invokevirtual 89, 3), (52, .iconst 0, 1), (53, .istore 5, 2), (55, .iload 5, 2), (57, .aload_n 0, 1), (58, .getfield 9, 3), (61, .getfield 92, 3), (64, .if_icmp .ge 96, 3), (67, .aload_n 0, 1), (68, .getfield 15, 3), (71, .getfield 98, 3), (74, .iload 5, 2), (76, .iaload, 1), (77, .istore 6, 2), (79, .iload 6, 2), (81, .iload_n 1, 1), (82, .if_icmp .eq 9, 3), (85, .iload 6, 2), (87, .iload_n 2, 1), (88, .if_icmp .ne 66, 3), (91, .aload_n 0, 1), (92, .aload_n 0, 1), (93, .getfield 9, 3), (96, .getfield 102, 3), (99, .iload 5, 2), (101, .aaload, 1), (102, .getfield 106, 3), (105, .iload 6, 2), (107, .iload_n 1, 1), (108, .if_icmp .ne 8, 3), (111, .iload 4, 2), (113, .goto 6, 3), (116, .iload 4, 2), (118, .ineg, 1), (119, .aload_n 0, 1), (120, .getfield 33, 3), (123, .invokevirtual 85, 3), (126, .aload_n 0, 1), (127, .getfield 42, 3), (130, .aload_n 0, 1), (131, .getfield 9, 3), (134, .getfield 102, 3), (137, .iload 5, 2), (139, .aaload, 1), (140, .getfield 111, 3), (143, .aload_n 0, 1), (144, .getfield 33, 3), (147, .aload_n 0, 1), (148, .getfield 36, 3), (151, .invokevirtual 114, 3), (154, .iinc 5 1, 3), (157, .goto (-102), 3), (160, .aload_n 0, 1), (161, .getfield 42, 3), (164, .invokevirtual 118, 3), (167, .ireturn, 1)] = true := by decide +kernel
theorem E23_0 {d sl : Nat} {p : Nat → Nat} {I : Nat → Nat → Int32} {J : Nat → Nat → Int64} (a1 : Int32) (a2 : Int32) (a3 : Int32) (a4 : Int32)  : den (d + 1) 23 [.ref 38, .int a1, .int a2, .int a3, .int a4] (S sl p I J) = evK (d + 1) 23 12 [.ref 38, .int a1, .int a2, .int a3, .int a4, .retAddr 0, .retAddr 0] [.ref 39] (den d 27 [.ref 2, .int a3] (S sl p I J)) := by
  refine (show den (d + 1) 23 [.ref 38, .int a1, .int a2, .int a3, .int a4] (S sl p I J) = ev (d + 1) 23 0 [.ref 38, .int a1, .int a2, .int a3, .int a4, .retAddr 0, .retAddr 0] [] (S sl p I J) from rfl).trans ?_
  refine (r_aln (dk D23 0 rfl) rfl).trans ?_
  refine (r_getR (dk D23 1 rfl) ow23 q4_26 ob_38 rfl).trans ?_
  refine (r_aln (dk D23 2 rfl) rfl).trans ?_
  refine (r_getR (dk D23 3 rfl) ow23 q4_19 ob_38 rfl).trans ?_
  refine (r_iln (dk D23 4 rfl) rfl).trans ?_
  exact r_cv (dk D23 5 rfl) ow23 c4_46 mf27 (Nat.le_of_ble_eq_true rfl) rfl rfl (Nat.le_of_ble_eq_true rfl) (Nat.le_of_ble_eq_true rfl) ob_2
theorem E23_12 {d sl : Nat} {p : Nat → Nat} {I : Nat → Nat → Int32} {J : Nat → Nat → Int64} (l1 : Int32) (l2 : Int32) (l3 : Int32) (l4 : Int32) (s0 : Int32)  : ev (d + 1) 23 12 [.ref 38, .int l1, .int l2, .int l3, .int l4, .retAddr 0, .retAddr 0] [.int s0, .ref 39] (S sl p I J) = evK (d + 1) 23 21 [.ref 38, .int l1, .int l2, .int l3, .int l4, .retAddr 0, .retAddr 0] [.long (Int32.toInt64 s0), .ref 39] (den d 26 [.ref 2, .int l3] (S sl p I J)) := by
  refine (r_i2l (dk D23 6 rfl)).trans ?_
  refine (r_aln (dk D23 7 rfl) rfl).trans ?_
  refine (r_getR (dk D23 8 rfl) ow23 q4_19 ob_38 rfl).trans ?_
  refine (r_iln (dk D23 9 rfl) rfl).trans ?_
  exact r_cv (dk D23 10 rfl) ow23 c4_52 mf26 (Nat.le_of_ble_eq_true rfl) rfl rfl (Nat.le_of_ble_eq_true rfl) (Nat.le_of_ble_eq_true rfl) ob_2
theorem E23_21 {d sl : Nat} {p : Nat → Nat} {I : Nat → Nat → Int32} {J : Nat → Nat → Int64} (l1 : Int32) (l2 : Int32) (l3 : Int32) (l4 : Int32) (s0 : Int32) (s1 : Int64)  : ev (d + 1) 23 21 [.ref 38, .int l1, .int l2, .int l3, .int l4, .retAddr 0, .retAddr 0] [.int s0, .long s1, .ref 39] (S sl p I J) = evK (d + 1) 23 26 [.ref 38, .int l1, .int l2, .int l3, .int l4, .retAddr 0, .retAddr 0] [] (den d 1 [.ref 39, .long s1, .long (Int32.toInt64 s0), .long 0] (S sl p I J)) := by
  refine (r_i2l (dk D23 11 rfl)).trans ?_
  refine (r_lc (dk D23 12 rfl) cl0).trans ?_
  exact r_cv (dk D23 13 rfl) ow23 c4_75 mf1 (Nat.le_of_ble_eq_true rfl) rfl rfl (Nat.le_of_ble_eq_true rfl) (Nat.le_of_ble_eq_true rfl) ob_39
theorem E23_26 {d sl : Nat} {p : Nat → Nat} {I : Nat → Nat → Int32} {J : Nat → Nat → Int64} (l1 : Int32) (l2 : Int32) (l3 : Int32) (l4 : Int32)  : ev (d + 1) 23 26 [.ref 38, .int l1, .int l2, .int l3, .int l4, .retAddr 0, .retAddr 0] [] (S sl p I J) = ck (ixb 30 l1) (evK (d + 1) 23 45 [.ref 38, .int l1, .int l2, .int l3, .int l4, .retAddr 0, .retAddr 0] [] (den d 22 [.ref 38, .ref (800 + (Int32.toNatClampNeg l1)), .int l4, .ref 42] (S sl p I J))) := by
  refine (r_aln (dk D23 14 rfl) rfl).trans ?_
  refine (r_aln (dk D23 15 rfl) rfl).trans ?_
  refine (r_getR (dk D23 16 rfl) ow23 q4_15 ob_38 rfl).trans ?_
  refine (r_getR (dk D23 17 rfl) ow23 q4_79 ob_11 rfl).trans ?_
  refine (r_iln (dk D23 18 rfl) rfl).trans ?_
  refine (r_ald (dk D23 19 rfl) ar_14 (by decide) rfA14).trans (ck3 fun g1 => ?_)
  refine (r_il (dk D23 20 rfl) rfl).trans ?_
  refine (r_aln (dk D23 21 rfl) rfl).trans ?_
  refine (r_getR (dk D23 22 rfl) ow23 q4_36 ob_38 rfl).trans ?_
  exact r_cv (dk D23 23 rfl) ow23 c4_85 mf22 (Nat.le_of_ble_eq_true rfl) rfl rfl (Nat.le_of_ble_eq_true rfl) (Nat.le_of_ble_eq_true rfl) ob_38
theorem E23_45 {d sl : Nat} {p : Nat → Nat} {I : Nat → Nat → Int32} {J : Nat → Nat → Int64} (l1 : Int32) (l2 : Int32) (l3 : Int32) (l4 : Int32)  : ev (d + 1) 23 45 [.ref 38, .int l1, .int l2, .int l3, .int l4, .retAddr 0, .retAddr 0] [] (S sl p I J) = evK (d + 1) 23 52 [.ref 38, .int l1, .int l2, .int l3, .int l4, .retAddr 0, .retAddr 0] [] (den d 16 [.ref 43] (S sl p I J)) := by
  refine (r_aln (dk D23 24 rfl) rfl).trans ?_
  refine (r_getR (dk D23 25 rfl) ow23 q4_42 ob_38 rfl).trans ?_
  exact r_cv (dk D23 26 rfl) ow23 c4_89 mf16 (Nat.le_of_ble_eq_true rfl) rfl rfl (Nat.le_of_ble_eq_true rfl) (Nat.le_of_ble_eq_true rfl) ob_43
theorem E23_52 {d sl : Nat} {p : Nat → Nat} {I : Nat → Nat → Int32} {J : Nat → Nat → Int64} (l1 : Int32) (l2 : Int32) (l3 : Int32) (l4 : Int32)  : ev d 23 52 [.ref 38, .int l1, .int l2, .int l3, .int l4, .retAddr 0, .retAddr 0] [] (S sl p I J) = ev d 23 55 [.ref 38, .int l1, .int l2, .int l3, .int l4, .int 0, .retAddr 0] [] (S sl p I J) := by
  refine (r_ic (dk D23 27 rfl) ci0).trans ?_
  refine (r_is (L' := [.ref 38, .int l1, .int l2, .int l3, .int l4, .int 0, .retAddr 0]) (dk D23 28 rfl) (Nat.le_of_ble_eq_true rfl) rfl).trans ?_
  exact rfl
theorem E23_55 {d sl : Nat} {p : Nat → Nat} {I : Nat → Nat → Int32} {J : Nat → Nat → Int64} (l1 : Int32) (l2 : Int32) (l3 : Int32) (l4 : Int32) (l5 : Int32)  : ev (d + 1) 23 55 [.ref 38, .int l1, .int l2, .int l3, .int l4, .int l5, .retAddr 0] [] (S sl p I J) = (if l5 < (I 4 8) then ck (ixb 60 l5) ((if (I 12 (Int32.toNatClampNeg l5)) = l1 then ev (d + 1) 23 91 [.ref 38, .int l1, .int l2, .int l3, .int l4, .int l5, .int (I 12 (Int32.toNatClampNeg l5))] [] (S sl p I J) else (if (I 12 (Int32.toNatClampNeg l5)) = l2 then ev (d + 1) 23 91 [.ref 38, .int l1, .int l2, .int l3, .int l4, .int l5, .int (I 12 (Int32.toNatClampNeg l5))] [] (S sl p I J) else ev (d + 1) 23 55 [.ref 38, .int l1, .int l2, .int l3, .int l4, .int (l5 + 1), .retAddr 0] [] (S sl p I J)))) else evK (d + 1) 23 167 [.ref 38, .int l1, .int l2, .int l3, .int l4, .int l5, .retAddr 0] [] (den d 19 [.ref 43] (S sl p I J))) := by
  refine (r_il (dk D23 29 rfl) rfl).trans ?_
  refine (r_aln (dk D23 30 rfl) rfl).trans ?_
  refine (r_getR (dk D23 31 rfl) ow23 q4_9 ob_38 rfl).trans ?_
  refine (r_getI (dk D23 32 rfl) ow23 q4_92 ob_4).trans ?_
  refine (r_ge (dk D23 33 rfl) rfl).trans (ite2 ?_ ?_)
  · refine (r_aln (dk D23 34 rfl) rfl).trans ?_
    refine (r_getR (dk D23 35 rfl) ow23 q4_15 ob_38 rfl).trans ?_
    refine (r_getR (dk D23 36 rfl) ow23 q4_98 ob_11 rfl).trans ?_
    refine (r_il (dk D23 37 rfl) rfl).trans ?_
    refine (r_ild (dk D23 38 rfl) ar_12).trans (ck3 fun g1 => ?_)
    refine (r_is (L' := [.ref 38, .int l1, .int l2, .int l3, .int l4, .int l5, .int (I 12 (Int32.toNatClampNeg l5))]) (dk D23 39 rfl) (Nat.le_of_ble_eq_true rfl) rfl).trans ?_
    refine (r_il (dk D23 40 rfl) rfl).trans ?_
    refine (r_iln (dk D23 41 rfl) rfl).trans ?_
    refine (r_eq (dk D23 42 rfl) rfl).trans (ite2 ?_ ?_)
    · exact rfl
    · refine (r_il (dk D23 43 rfl) rfl).trans ?_
      refine (r_iln (dk D23 44 rfl) rfl).trans ?_
      refine (r_ne (dk D23 45 rfl) rfl).trans (ite2 ?_ ?_)
      · exact rfl
      · refine (r_inc (L' := [.ref 38, .int l1, .int l2, .int l3, .int l4, .int (l5 + 1), .int (I 12 (Int32.toNatClampNeg l5))]) (dk D23 76 rfl) rfl rfl ci1 (Nat.le_of_ble_eq_true rfl) rfl).trans ?_
        refine (r_goto (L' := [.ref 38, .int l1, .int l2, .int l3, .int l4, .int (l5 + 1), .retAddr 0]) (dk D23 77 rfl) rfl nd23_55 rfl).trans ?_
        exact rfl
  · refine (r_aln (dk D23 78 rfl) rfl).trans ?_
    refine (r_getR (dk D23 79 rfl) ow23 q4_42 ob_38 rfl).trans ?_
    exact r_cv (dk D23 80 rfl) ow23 c4_118 mf19 (Nat.le_of_ble_eq_true rfl) rfl rfl (Nat.le_of_ble_eq_true rfl) (Nat.le_of_ble_eq_true rfl) ob_43
theorem E23_91 {d sl : Nat} {p : Nat → Nat} {I : Nat → Nat → Int32} {J : Nat → Nat → Int64} (l1 : Int32) (l2 : Int32) (l3 : Int32) (l4 : Int32) (l5 : Int32) (l6 : Int32) (hp : ∀ k, p k < 60)  : ev d 23 91 [.ref 38, .int l1, .int l2, .int l3, .int l4, .int l5, .int l6] [] (S sl p I J) = ck (ixb 60 l5) ((if l6 = l1 then ev d 23 119 [.ref 38, .int l1, .int l2, .int l3, .int l4, .int l5, .int l6] [.int l4, .ref (300 + p (Int32.toNatClampNeg l5)), .ref 38] (S sl p I J) else ev d 23 119 [.ref 38, .int l1, .int l2, .int l3, .int l4, .int l5, .int l6] [.int (-l4), .ref (300 + p (Int32.toNatClampNeg l5)), .ref 38] (S sl p I J))) := by
  refine (r_aln (dk D23 46 rfl) rfl).trans ?_
  refine (r_aln (dk D23 47 rfl) rfl).trans ?_
  refine (r_getR (dk D23 48 rfl) ow23 q4_9 ob_38 rfl).trans ?_
  refine (r_getR (dk D23 49 rfl) ow23 q4_102 ob_4 rfl).trans ?_
  refine (r_il (dk D23 50 rfl) rfl).trans ?_
  refine (r_ald (dk D23 51 rfl) ar_9 (by decide) rfA9).trans (ck3 fun g1 => ?_)
  refine (r_getR (dk D23 52 rfl) ow23 q4_106 (obC (hp (Int32.toNatClampNeg l5))) (rfC (hp (Int32.toNatClampNeg l5)))).trans ?_
  refine (r_il (dk D23 53 rfl) rfl).trans ?_
  refine (r_iln (dk D23 54 rfl) rfl).trans ?_
  refine (r_ne (dk D23 55 rfl) rfl).trans (ite2 ?_ ?_)
  · refine (r_il (dk D23 56 rfl) rfl).trans ?_
    refine (r_goto (L' := [.ref 38, .int l1, .int l2, .int l3, .int l4, .int l5, .int l6]) (dk D23 57 rfl) rfl nd23_119 rfl).trans ?_
    exact rfl
  · refine (r_il (dk D23 58 rfl) rfl).trans ?_
    refine (r_ineg (dk D23 59 rfl)).trans ?_
    exact rfl
theorem E23_119 {d sl : Nat} {p : Nat → Nat} {I : Nat → Nat → Int32} {J : Nat → Nat → Int64} (l1 : Int32) (l2 : Int32) (l3 : Int32) (l4 : Int32) (l5 : Int32) (l6 : Int32) (s0 : Int32) {s1 : Nat} (hs1 : ob s1 0) : ev (d + 1) 23 119 [.ref 38, .int l1, .int l2, .int l3, .int l4, .int l5, .int l6] [.int s0, .ref s1, .ref 38] (S sl p I J) = evK (d + 1) 23 126 [.ref 38, .int l1, .int l2, .int l3, .int l4, .int l5, .int l6] [] (den d 22 [.ref 38, .ref s1, .int s0, .ref 41] (S sl p I J)) := by
  refine (r_aln (dk D23 60 rfl) rfl).trans ?_
  refine (r_getR (dk D23 61 rfl) ow23 q4_33 ob_38 rfl).trans ?_
  exact r_cv (dk D23 62 rfl) ow23 c4_85 mf22 (Nat.le_of_ble_eq_true rfl) rfl rfl (Nat.le_of_ble_eq_true rfl) (Nat.le_of_ble_eq_true rfl) ob_38
theorem E23_126 {d sl : Nat} {p : Nat → Nat} {I : Nat → Nat → Int32} {J : Nat → Nat → Int64} (l1 : Int32) (l2 : Int32) (l3 : Int32) (l4 : Int32) (l5 : Int32) (l6 : Int32) (hp : ∀ k, p k < 60)  : ev (d + 1) 23 126 [.ref 38, .int l1, .int l2, .int l3, .int l4, .int l5, .int l6] [] (S sl p I J) = ck (ixb 60 l5) (evK (d + 1) 23 154 [.ref 38, .int l1, .int l2, .int l3, .int l4, .int l5, .int l6] [] (den d 17 [.ref 43, .int (I (200 + p (Int32.toNatClampNeg l5)) 8), .ref 41, .ref 42] (S sl p I J))) := by
  refine (r_aln (dk D23 63 rfl) rfl).trans ?_
  refine (r_getR (dk D23 64 rfl) ow23 q4_42 ob_38 rfl).trans ?_
  refine (r_aln (dk D23 65 rfl) rfl).trans ?_
  refine (r_getR (dk D23 66 rfl) ow23 q4_9 ob_38 rfl).trans ?_
  refine (r_getR (dk D23 67 rfl) ow23 q4_102 ob_4 rfl).trans ?_
  refine (r_il (dk D23 68 rfl) rfl).trans ?_
  refine (r_ald (dk D23 69 rfl) ar_9 (by decide) rfA9).trans (ck3 fun g1 => ?_)
  refine (r_getI (dk D23 70 rfl) ow23 q4_111 (obC (hp (Int32.toNatClampNeg l5)))).trans ?_
  refine (r_aln (dk D23 71 rfl) rfl).trans ?_
  refine (r_getR (dk D23 72 rfl) ow23 q4_33 ob_38 rfl).trans ?_
  refine (r_aln (dk D23 73 rfl) rfl).trans ?_
  refine (r_getR (dk D23 74 rfl) ow23 q4_36 ob_38 rfl).trans ?_
  exact r_cv (dk D23 75 rfl) ow23 c4_114 mf17 (Nat.le_of_ble_eq_true rfl) rfl rfl (Nat.le_of_ble_eq_true rfl) (Nat.le_of_ble_eq_true rfl) ob_43
theorem E23_154 {d sl : Nat} {p : Nat → Nat} {I : Nat → Nat → Int32} {J : Nat → Nat → Int64} (l1 : Int32) (l2 : Int32) (l3 : Int32) (l4 : Int32) (l5 : Int32) (l6 : Int32)  : ev d 23 154 [.ref 38, .int l1, .int l2, .int l3, .int l4, .int l5, .int l6] [] (S sl p I J) = ev d 23 55 [.ref 38, .int l1, .int l2, .int l3, .int l4, .int (l5 + 1), .retAddr 0] [] (S sl p I J) := by
  refine (r_inc (L' := [.ref 38, .int l1, .int l2, .int l3, .int l4, .int (l5 + 1), .int l6]) (dk D23 76 rfl) rfl rfl ci1 (Nat.le_of_ble_eq_true rfl) rfl).trans ?_
  refine (r_goto (L' := [.ref 38, .int l1, .int l2, .int l3, .int l4, .int (l5 + 1), .retAddr 0]) (dk D23 77 rfl) rfl nd23_55 rfl).trans ?_
  exact rfl
theorem E23_167 {d sl : Nat} {p : Nat → Nat} {I : Nat → Nat → Int32} {J : Nat → Nat → Int64} (l1 : Int32) (l2 : Int32) (l3 : Int32) (l4 : Int32) (l5 : Int32) (s0 : Int32)  : ev d 23 167 [.ref 38, .int l1, .int l2, .int l3, .int l4, .int l5, .retAddr 0] [.int s0] (S sl p I J) = some (some (.int s0), (S sl p I J)) := by
  exact r_ret (dk D23 81 rfl) rt23
