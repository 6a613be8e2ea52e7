set_option maxRecDepth 20000 in
theorem D59 : dOK 59 [(0, .iload_n 1, 1), (1, .ifCond .lt 15, 3), (4, .iload_n 1, 1), (5, .aload_n 0, 1), (6, .getfield 48, 3), (9, .if_icmp .ge 7, 3), (12, .iconst 1, 1), (13, .goto 4, 3), (16, .iconst 0, 1), (17, .ireturn, 1)] = true := by decide +kernel
theorem E59_0 {d sl : Nat} {p : Nat → Nat} {I : Nat → Nat → Int32} {J : Nat → Nat → Int64} (a1 : Int32)  : den d 59 [.ref 4, .int a1] (S sl p I J) = (if a1 < 0 then some (some (.int 0), (S sl p I J)) else (if a1 < (I 4 7) then some (some (.int 1), (S sl p I J)) else some (some (.int 0), (S sl p I J)))) := by
  refine (show den d 59 [.ref 4, .int a1] (S sl p I J) = ev d 59 0 [.ref 4, .int a1] [] (S sl p I J) from rfl).trans ?_
  refine (r_iln (dk D59 0 rfl) rfl).trans ?_
  refine (r_lt0 (dk D59 1 rfl) rfl).trans (ite2 ?_ ?_)
  · refine (r_ic (dk D59 8 rfl) ci0).trans ?_
    exact r_rez (dk D59 9 rfl) rt59 (by decide)
  · refine (r_iln (dk D59 2 rfl) rfl).trans ?_
    refine (r_aln (dk D59 3 rfl) rfl).trans ?_
    refine (r_getI (dk D59 4 rfl) ow59 q8_48 ob_4).trans ?_
    refine (r_ge (dk D59 5 rfl) rfl).trans (ite2 ?_ ?_)
    · refine (r_ic (dk D59 6 rfl) ci1).trans ?_
      refine (r_goto (L' := [.ref 4, .int a1]) (dk D59 7 rfl) rfl nd59_17 rfl).trans ?_
      exact r_rez (dk D59 9 rfl) rt59 (by decide)
    · refine (r_ic (dk D59 8 rfl) ci0).trans ?_
      exact r_rez (dk D59 9 rfl) rt59 (by decide)
set_option maxRecDepth 20000 in
theorem D60 : dOK 60 [(0, .iload_n 1, 1), (1, .ifCond .lt 15, 3), (4, .iload_n 1, 1), (5, .aload_n 0, 1), (6, .getfield 51, 3), (9, .if_icmp .ge 7, 3), (12, .iconst 1, 1), (13, .goto 4, 3), (16, .iconst 0, 1), (17, .ireturn, 1)] = true := by decide +kernel
theorem E60_0 {d sl : Nat} {p : Nat → Nat} {I : Nat → Nat → Int32} {J : Nat → Nat → Int64} (a1 : Int32)  : den d 60 [.ref 4, .int a1] (S sl p I J) = (if a1 < 0 then some (some (.int 0), (S sl p I J)) else (if a1 < (I 4 8) then some (some (.int 1), (S sl p I J)) else some (some (.int 0), (S sl p I J)))) := by
  refine (show den d 60 [.ref 4, .int a1] (S sl p I J) = ev d 60 0 [.ref 4, .int a1] [] (S sl p I J) from rfl).trans ?_
  refine (r_iln (dk D60 0 rfl) rfl).trans ?_
  refine (r_lt0 (dk D60 1 rfl) rfl).trans (ite2 ?_ ?_)
  · refine (r_ic (dk D60 8 rfl) ci0).trans ?_
    exact r_rez (dk D60 9 rfl) rt60 (by decide)
  · refine (r_iln (dk D60 2 rfl) rfl).trans ?_
    refine (r_aln (dk D60 3 rfl) rfl).trans ?_
    refine (r_getI (dk D60 4 rfl) ow60 q8_51 ob_4).trans ?_
    refine (r_ge (dk D60 5 rfl) rfl).trans (ite2 ?_ ?_)
    · refine (r_ic (dk D60 6 rfl) ci1).trans ?_
      refine (r_goto (L' := [.ref 4, .int a1]) (dk D60 7 rfl) rfl nd60_17 rfl).trans ?_
      exact r_rez (dk D60 9 rfl) rt60 (by decide)
    · refine (r_ic (dk D60 8 rfl) ci0).trans ?_
      exact r_rez (dk D60 9 rfl) rt60 (by decide)
set_option maxRecDepth 20000 in
theorem D61 : dOK 61 [(0, .aload_n 0, 1), (1, .getfield 48, 3), (4, .istore 4, 2), (6, .aload_n 0, 1), (7, .getfield 15, 3), (10, .iload 4, 2), (12, .iload_n 1, 1), (13, .iastore, 1), (14, .aload_n 0, 1), (15, .getfield 19, 3), (18, .iload 4, 2), (20, .iload_n 2, 1), (21, .iastore, 1), (22, .aload_n 0, 1), (23, .getfield 22, 3), (26, .iload 4, 2), (28, .iload_n 3, 1), (29, .iastore, 1), (30, .aload_n 0, 1), (31, .getfield 9, 3), (34, .iload_n 1, 1), (35, .iload_n 2, 1), (36, .aload_n 0, 1), (37, .getfield 27, 3), (40, .iload 4, 2), (42, .aaload, 1), (43, .invokevirtual 54, 3), (46, .aload_n 0, 1), (47, .dup, 1), (48, .getfield 48, 3), (51, .iconst 1, 1), (52, .iadd, 1), (53, .putfield 48, 3), (56, .iload 4, 2), (58, .ireturn, 1)] = true := by decide +kernel
theorem E61_0 {d sl : Nat} {p : Nat → Nat} {I : Nat → Nat → Int32} {J : Nat → Nat → Int64} (a1 : Int32) (a2 : Int32) (a3 : Int32)  : den (d + 1) 61 [.ref 4, .int a1, .int a2, .int a3] (S sl p I J) = ck (ixb 6 (I 4 7)) (ck (ixb 6 (I 4 7)) (ck (ixb 6 (I 4 7)) (ck (ixb 6 (I 4 7)) (evK (d + 1) 61 46 [.ref 4, .int a1, .int a2, .int a3, .int (I 4 7)] [] (den d 29 [.ref 2, .int a1, .int a2, .ref (100 + (Int32.toNatClampNeg (I 4 7)))] (S sl p (up2 (up2 (up2 I 5 (Int32.toNatClampNeg (I 4 7)) a1) 6 (Int32.toNatClampNeg (I 4 7)) a2) 7 (Int32.toNatClampNeg (I 4 7)) a3) J)))))) := by
  refine (show den (d + 1) 61 [.ref 4, .int a1, .int a2, .int a3] (S sl p I J) = ev (d + 1) 61 0 [.ref 4, .int a1, .int a2, .int a3, .retAddr 0] [] (S sl p I J) from rfl).trans ?_
  refine (r_aln (dk D61 0 rfl) rfl).trans ?_
  refine (r_getI (dk D61 1 rfl) ow61 q8_48 ob_4).trans ?_
  refine (r_is (L' := [.ref 4, .int a1, .int a2, .int a3, .int (I 4 7)]) (dk D61 2 rfl) (Nat.le_of_ble_eq_true rfl) rfl).trans ?_
  refine (r_aln (dk D61 3 rfl) rfl).trans ?_
  refine (r_getR (dk D61 4 rfl) ow61 q8_15 ob_4 rfl).trans ?_
  refine (r_il (dk D61 5 rfl) rfl).trans ?_
  refine (r_iln (dk D61 6 rfl) rfl).trans ?_
  refine (r_ist (dk D61 7 rfl) ar_5).trans (ck3 fun g1 => ?_)
  refine (r_aln (dk D61 8 rfl) rfl).trans ?_
  refine (r_getR (dk D61 9 rfl) ow61 q8_19 ob_4 rfl).trans ?_
  refine (r_il (dk D61 10 rfl) rfl).trans ?_
  refine (r_iln (dk D61 11 rfl) rfl).trans ?_
  refine (r_ist (dk D61 12 rfl) ar_6).trans (ck3 fun g2 => ?_)
  refine (r_aln (dk D61 13 rfl) rfl).trans ?_
  refine (r_getR (dk D61 14 rfl) ow61 q8_22 ob_4 rfl).trans ?_
  refine (r_il (dk D61 15 rfl) rfl).trans ?_
  refine (r_iln (dk D61 16 rfl) rfl).trans ?_
  refine (r_ist (dk D61 17 rfl) ar_7).trans (ck3 fun g3 => ?_)
  refine (r_aln (dk D61 18 rfl) rfl).trans ?_
  refine (r_getR (dk D61 19 rfl) ow61 q8_9 ob_4 rfl).trans ?_
  refine (r_iln (dk D61 20 rfl) rfl).trans ?_
  refine (r_iln (dk D61 21 rfl) rfl).trans ?_
  refine (r_aln (dk D61 22 rfl) rfl).trans ?_
  refine (r_getR (dk D61 23 rfl) ow61 q8_27 ob_4 rfl).trans ?_
  refine (r_il (dk D61 24 rfl) rfl).trans ?_
  refine (r_ald (dk D61 25 rfl) ar_8 (by decide) rfA8).trans (ck3 fun g4 => ?_)
  exact r_cv (dk D61 26 rfl) ow61 c8_54 mf29 (Nat.le_of_ble_eq_true rfl) rfl rfl (Nat.le_of_ble_eq_true rfl) (Nat.le_of_ble_eq_true rfl) ob_2
theorem E61_46 {d sl : Nat} {p : Nat → Nat} {I : Nat → Nat → Int32} {J : Nat → Nat → Int64} (l1 : Int32) (l2 : Int32) (l3 : Int32) (l4 : Int32)  : ev d 61 46 [.ref 4, .int l1, .int l2, .int l3, .int l4] [] (S sl p I J) = some (some (.int l4), (S sl p (up2 I 4 7 ((I 4 7) + 1)) J)) := by
  refine (r_aln (dk D61 27 rfl) rfl).trans ?_
  refine (r_dup (dk D61 28 rfl) rfl).trans ?_
  refine (r_getI (dk D61 29 rfl) ow61 q8_48 ob_4).trans ?_
  refine (r_ic (dk D61 30 rfl) ci1).trans ?_
  refine (r_iadd (dk D61 31 rfl)).trans ?_
  refine (r_putI (dk D61 32 rfl) ow61 w8_48 ob_4).trans ?_
  refine (r_il (dk D61 33 rfl) rfl).trans ?_
  exact r_ret (dk D61 34 rfl) rt61
set_option maxRecDepth 20000 in
theorem D62 : dOK 62 [(0, .aload_n 0, 1), (1, .getfield 34, 3), (4, .aload_n 0, 1), (5, .getfield 51, 3), (8, .aaload, 1), (9, .astore 5, 2), (11, .aload 5, 2), (13, .iload_n 1, 1), (14, .putfield 60, 3), (17, .aload 5, 2), (19, .iload 4, 2), (21, .putfield 63, 3), (24, .aload 5, 2), (26, .iload_n 2, 1), (27, .iload_n 3, 1), (28, .invokevirtual 66, 3), (31, .aload_n 0, 1), (32, .getfield 9, 3), (35, .iload_n 2, 1), (36, .iload_n 3, 1), (37, .aload 5, 2), (39, .getfield 70, 3), (42, .invokevirtual 74, 3), (45, .aload 5, 2), (47, .aload_n 0, 1), (48, .aload 5, 2), (50, .getfield 70, 3), (53, .aload_n 0, 1), (54, .getfield 27, 3), (57, .iload_n 1, 1), (58, .aaload, 1), (59, .invokevirtual 77, 3), (62, .putfield 81, 3), (65, .iconst 0, 1), (66, .istore 6, 2), (68, .iload 6, 2), (70, .aload_n 0, 1), (71, .getfield 51, 3), (74, .if_icmp .gt 85, 3), (77, .aload_n 0, 1), (78, .getfield 9, 3), (81, .aload 5, 2), (83, .getfield 70, 3), (86, .aload_n 0, 1), (87, .getfield 34, 3), (90, .iload 6, 2), (92, .aaload, 1), (93, .getfield 70, 3), (96, .invokevirtual 84, 3), (99, .istore 7, 2), (101, .aload_n 0, 1), (102, .getfield 41, 3), (105, .aload 5, 2), (107, .getfield 87, 3), (110, .bipush 60, 2), (112, .imul, 1), (113, .aload_n 0, 1), (114, .getfield 34, 3), (117, .iload 6, 2), (119, .aaload, 1), (120, .getfield 87, 3), (123, .iadd, 1), (124, .iload 7, 2), (126, .iastore, 1), (127, .aload_n 0, 1), (128, .getfield 41, 3), (131, .aload_n 0, 1), (132, .getfield 34, 3), (135, .iload 6, 2), (137, .aaload, 1), (138, .getfield 87, 3), (141, .bipush 60, 2), (143, .imul, 1), (144, .aload 5, 2), (146, .getfield 87, 3), (149, .iadd, 1), (150, .iload 7, 2), (152, .iastore, 1), (153, .iinc 6 1, 3), (156, .goto (-88), 3), (159, .aload_n 0, 1), (160, .dup, 1), (161, .getfield 90, 3), (164, .iconst 1, 1), (165, .iadd, 1), (166, .putfield 90, 3), (169, .aload_n 0, 1), (170, .dup, 1), (171, .getfield 51, 3), (174, .iconst 1, 1), (175, .iadd, 1), (176, .putfield 51, 3), (179, .aload_n 0, 1), (180, .getfield 51, 3), (183, .iconst 1, 1), (184, .isub, 1), (185, .ireturn, 1)] = true := by decide +kernel
theorem E62_0 {d sl : Nat} {p : Nat → Nat} {I : Nat → Nat → Int32} {J : Nat → Nat → Int64} (a1 : Int32) (a2 : Int32) (a3 : Int32) (a4 : Int32) (hp : ∀ k, p k < 60)  : den (d + 1) 62 [.ref 4, .int a1, .int a2, .int a3, .int a4] (S sl p I J) = ck (ixb 60 (I 4 8)) (evK (d + 1) 62 31 [.ref 4, .int a1, .int a2, .int a3, .int a4, .ref (200 + p (Int32.toNatClampNeg (I 4 8))), .retAddr 0, .retAddr 0] [] (den d 10 [.ref (200 + p (Int32.toNatClampNeg (I 4 8))), .int a2, .int a3] (S sl p (up2 (up2 I (200 + p (Int32.toNatClampNeg (I 4 8))) 2 a1) (200 + p (Int32.toNatClampNeg (I 4 8))) 5 a4) J))) := by
  refine (show den (d + 1) 62 [.ref 4, .int a1, .int a2, .int a3, .int a4] (S sl p I J) = ev (d + 1) 62 0 [.ref 4, .int a1, .int a2, .int a3, .int a4, .retAddr 0, .retAddr 0, .retAddr 0] [] (S sl p I J) from rfl).trans ?_
  refine (r_aln (dk D62 0 rfl) rfl).trans ?_
  refine (r_getR (dk D62 1 rfl) ow62 q8_34 ob_4 rfl).trans ?_
  refine (r_aln (dk D62 2 rfl) rfl).trans ?_
  refine (r_getI (dk D62 3 rfl) ow62 q8_51 ob_4).trans ?_
  refine (r_ald (dk D62 4 rfl) ar_9 (by decide) rfA9).trans (ck3 fun g1 => ?_)
  refine (r_as (L' := [.ref 4, .int a1, .int a2, .int a3, .int a4, .ref (200 + p (Int32.toNatClampNeg (I 4 8))), .retAddr 0, .retAddr 0]) (dk D62 5 rfl) (Nat.le_of_ble_eq_true rfl) rfl).trans ?_
  refine (r_al (dk D62 6 rfl) rfl).trans ?_
  refine (r_iln (dk D62 7 rfl) rfl).trans ?_
  refine (r_putI (dk D62 8 rfl) ow62 w8_60 (obC (hp (Int32.toNatClampNeg (I 4 8))))).trans ?_
  refine (r_al (dk D62 9 rfl) rfl).trans ?_
  refine (r_il (dk D62 10 rfl) rfl).trans ?_
  refine (r_putI (dk D62 11 rfl) ow62 w8_63 (obC (hp (Int32.toNatClampNeg (I 4 8))))).trans ?_
  refine (r_al (dk D62 12 rfl) rfl).trans ?_
  refine (r_iln (dk D62 13 rfl) rfl).trans ?_
  refine (r_iln (dk D62 14 rfl) rfl).trans ?_
  exact r_cv (dk D62 15 rfl) ow62 c8_66 mf10 (Nat.le_of_ble_eq_true rfl) rfl rfl (Nat.le_of_ble_eq_true rfl) (Nat.le_of_ble_eq_true rfl) (obC (hp (Int32.toNatClampNeg (I 4 8))))
theorem E62_31 {d sl : Nat} {p : Nat → Nat} {I : Nat → Nat → Int32} {J : Nat → Nat → Int64} (l1 : Int32) (l2 : Int32) (l3 : Int32) (l4 : Int32) {l5 : Nat} (hl5 : l5 < 60) : ev (d + 1) 62 31 [.ref 4, .int l1, .int l2, .int l3, .int l4, .ref (200 + l5), .retAddr 0, .retAddr 0] [] (S sl p I J) = evK (d + 1) 62 45 [.ref 4, .int l1, .int l2, .int l3, .int l4, .ref (200 + l5), .retAddr 0, .retAddr 0] [] (den d 28 [.ref 2, .int l2, .int l3, .ref (300 + l5)] (S sl p I J)) := by
  refine (r_aln (dk D62 16 rfl) rfl).trans ?_
  refine (r_getR (dk D62 17 rfl) ow62 q8_9 ob_4 rfl).trans ?_
  refine (r_iln (dk D62 18 rfl) rfl).trans ?_
  refine (r_iln (dk D62 19 rfl) rfl).trans ?_
  refine (r_al (dk D62 20 rfl) rfl).trans ?_
  refine (r_getR (dk D62 21 rfl) ow62 q8_70 (obC hl5) (rfC hl5)).trans ?_
  exact r_cv (dk D62 22 rfl) ow62 c8_74 mf28 (Nat.le_of_ble_eq_true rfl) rfl rfl (Nat.le_of_ble_eq_true rfl) (Nat.le_of_ble_eq_true rfl) ob_2
theorem E62_45 {d sl : Nat} {p : Nat → Nat} {I : Nat → Nat → Int32} {J : Nat → Nat → Int64} (l1 : Int32) (l2 : Int32) (l3 : Int32) (l4 : Int32) {l5 : Nat} (hl5 : l5 < 60) : ev (d + 1) 62 45 [.ref 4, .int l1, .int l2, .int l3, .int l4, .ref (200 + l5), .retAddr 0, .retAddr 0] [] (S sl p I J) = ck (ixb 6 l1) (evK (d + 1) 62 62 [.ref 4, .int l1, .int l2, .int l3, .int l4, .ref (200 + l5), .retAddr 0, .retAddr 0] [.ref (200 + l5)] (den d 65 [.ref 4, .ref (300 + l5), .ref (100 + (Int32.toNatClampNeg l1))] (S sl p I J))) := by
  refine (r_al (dk D62 23 rfl) rfl).trans ?_
  refine (r_aln (dk D62 24 rfl) rfl).trans ?_
  refine (r_al (dk D62 25 rfl) rfl).trans ?_
  refine (r_getR (dk D62 26 rfl) ow62 q8_70 (obC hl5) (rfC hl5)).trans ?_
  refine (r_aln (dk D62 27 rfl) rfl).trans ?_
  refine (r_getR (dk D62 28 rfl) ow62 q8_27 ob_4 rfl).trans ?_
  refine (r_iln (dk D62 29 rfl) rfl).trans ?_
  refine (r_ald (dk D62 30 rfl) ar_8 (by decide) rfA8).trans (ck3 fun g1 => ?_)
  exact r_cv (dk D62 31 rfl) ow62 c8_77 mf65 (Nat.le_of_ble_eq_true rfl) rfl rfl (Nat.le_of_ble_eq_true rfl) (Nat.le_of_ble_eq_true rfl) ob_4
theorem E62_62 {d sl : Nat} {p : Nat → Nat} {I : Nat → Nat → Int32} {J : Nat → Nat → Int64} (l1 : Int32) (l2 : Int32) (l3 : Int32) (l4 : Int32) {l5 : Nat} (s0 : Int32) {s1 : Nat} (hl5 : l5 < 60) (hs1 : s1 < 60) : ev d 62 62 [.ref 4, .int l1, .int l2, .int l3, .int l4, .ref (200 + l5), .retAddr 0, .retAddr 0] [.int s0, .ref (200 + s1)] (S sl p I J) = ev d 62 68 [.ref 4, .int l1, .int l2, .int l3, .int l4, .ref (200 + l5), .int 0, .retAddr 0] [] (S sl p (up2 I (200 + s1) 8 s0) J) := by
  refine (r_putI (dk D62 32 rfl) ow62 w8_81 (obC hs1)).trans ?_
  refine (r_ic (dk D62 33 rfl) ci0).trans ?_
  refine (r_is (L' := [.ref 4, .int l1, .int l2, .int l3, .int l4, .ref (200 + l5), .int 0, .retAddr 0]) (dk D62 34 rfl) (Nat.le_of_ble_eq_true rfl) rfl).trans ?_
  exact rfl
theorem E62_68 {d sl : Nat} {p : Nat → Nat} {I : Nat → Nat → Int32} {J : Nat → Nat → Int64} (l1 : Int32) (l2 : Int32) (l3 : Int32) (l4 : Int32) {l5 : Nat} (l6 : Int32) (hp : ∀ k, p k < 60) (hl5 : l5 < 60) : ev (d + 1) 62 68 [.ref 4, .int l1, .int l2, .int l3, .int l4, .ref (200 + l5), .int l6, .retAddr 0] [] (S sl p I J) = (if l6 ≤ (I 4 8) then ck (ixb 60 l6) (evK (d + 1) 62 99 [.ref 4, .int l1, .int l2, .int l3, .int l4, .ref (200 + l5), .int l6, .retAddr 0] [] (den d 31 [.ref 2, .ref (300 + l5), .ref (300 + p (Int32.toNatClampNeg l6))] (S sl p I J))) else some (some (.int (((up2 (up2 I 4 10 ((I 4 10) + 1)) 4 8 (((up2 I 4 10 ((I 4 10) + 1)) 4 8) + 1)) 4 8) - 1)), (S sl p (up2 (up2 I 4 10 ((I 4 10) + 1)) 4 8 (((up2 I 4 10 ((I 4 10) + 1)) 4 8) + 1)) J))) := by
  refine (r_il (dk D62 35 rfl) rfl).trans ?_
  refine (r_aln (dk D62 36 rfl) rfl).trans ?_
  refine (r_getI (dk D62 37 rfl) ow62 q8_51 ob_4).trans ?_
  refine (r_gt (dk D62 38 rfl) rfl).trans (ite2 ?_ ?_)
  · refine (r_aln (dk D62 39 rfl) rfl).trans ?_
    refine (r_getR (dk D62 40 rfl) ow62 q8_9 ob_4 rfl).trans ?_
    refine (r_al (dk D62 41 rfl) rfl).trans ?_
    refine (r_getR (dk D62 42 rfl) ow62 q8_70 (obC hl5) (rfC hl5)).trans ?_
    refine (r_aln (dk D62 43 rfl) rfl).trans ?_
    refine (r_getR (dk D62 44 rfl) ow62 q8_34 ob_4 rfl).trans ?_
    refine (r_il (dk D62 45 rfl) rfl).trans ?_
    refine (r_ald (dk D62 46 rfl) ar_9 (by decide) rfA9).trans (ck3 fun g1 => ?_)
    refine (r_getR (dk D62 47 rfl) ow62 q8_70 (obC (hp (Int32.toNatClampNeg l6))) (rfC (hp (Int32.toNatClampNeg l6)))).trans ?_
    exact r_cv (dk D62 48 rfl) ow62 c8_84 mf31 (Nat.le_of_ble_eq_true rfl) rfl rfl (Nat.le_of_ble_eq_true rfl) (Nat.le_of_ble_eq_true rfl) ob_2
  · refine (r_aln (dk D62 80 rfl) rfl).trans ?_
    refine (r_dup (dk D62 81 rfl) rfl).trans ?_
    refine (r_getI (dk D62 82 rfl) ow62 q8_90 ob_4).trans ?_
    refine (r_ic (dk D62 83 rfl) ci1).trans ?_
    refine (r_iadd (dk D62 84 rfl)).trans ?_
    refine (r_putI (dk D62 85 rfl) ow62 w8_90 ob_4).trans ?_
    refine (r_aln (dk D62 86 rfl) rfl).trans ?_
    refine (r_dup (dk D62 87 rfl) rfl).trans ?_
    refine (r_getI (dk D62 88 rfl) ow62 q8_51 ob_4).trans ?_
    refine (r_ic (dk D62 89 rfl) ci1).trans ?_
    refine (r_iadd (dk D62 90 rfl)).trans ?_
    refine (r_putI (dk D62 91 rfl) ow62 w8_51 ob_4).trans ?_
    refine (r_aln (dk D62 92 rfl) rfl).trans ?_
    refine (r_getI (dk D62 93 rfl) ow62 q8_51 ob_4).trans ?_
    refine (r_ic (dk D62 94 rfl) ci1).trans ?_
    refine (r_isub (dk D62 95 rfl)).trans ?_
    exact r_ret (dk D62 96 rfl) rt62
theorem E62_99 {d sl : Nat} {p : Nat → Nat} {I : Nat → Nat → Int32} {J : Nat → Nat → Int64} (l1 : Int32) (l2 : Int32) (l3 : Int32) (l4 : Int32) {l5 : Nat} (l6 : Int32) (s0 : Int32) (hp : ∀ k, p k < 60) (hl5 : l5 < 60) : ev d 62 99 [.ref 4, .int l1, .int l2, .int l3, .int l4, .ref (200 + l5), .int l6, .retAddr 0] [.int s0] (S sl p I J) = ck (ixb 60 l6) (ck (ixb 3600 (((I (200 + l5) 0) * 60) + (I (200 + p (Int32.toNatClampNeg l6)) 0))) (ck (ixb 60 l6) (ck (ixb 3600 ((((up2 I 10 (Int32.toNatClampNeg (((I (200 + l5) 0) * 60) + (I (200 + p (Int32.toNatClampNeg l6)) 0))) s0) (200 + p (Int32.toNatClampNeg l6)) 0) * 60) + ((up2 I 10 (Int32.toNatClampNeg (((I (200 + l5) 0) * 60) + (I (200 + p (Int32.toNatClampNeg l6)) 0))) s0) (200 + l5) 0))) (ev d 62 68 [.ref 4, .int l1, .int l2, .int l3, .int l4, .ref (200 + l5), .int (l6 + 1), .retAddr 0] [] (S sl p (up2 (up2 I 10 (Int32.toNatClampNeg (((I (200 + l5) 0) * 60) + (I (200 + p (Int32.toNatClampNeg l6)) 0))) s0) 10 (Int32.toNatClampNeg ((((up2 I 10 (Int32.toNatClampNeg (((I (200 + l5) 0) * 60) + (I (200 + p (Int32.toNatClampNeg l6)) 0))) s0) (200 + p (Int32.toNatClampNeg l6)) 0) * 60) + ((up2 I 10 (Int32.toNatClampNeg (((I (200 + l5) 0) * 60) + (I (200 + p (Int32.toNatClampNeg l6)) 0))) s0) (200 + l5) 0))) s0) J))))) := by
  refine (r_is (L' := [.ref 4, .int l1, .int l2, .int l3, .int l4, .ref (200 + l5), .int l6, .int s0]) (dk D62 49 rfl) (Nat.le_of_ble_eq_true rfl) rfl).trans ?_
  refine (r_aln (dk D62 50 rfl) rfl).trans ?_
  refine (r_getR (dk D62 51 rfl) ow62 q8_41 ob_4 rfl).trans ?_
  refine (r_al (dk D62 52 rfl) rfl).trans ?_
  refine (r_getI (dk D62 53 rfl) ow62 q8_87 (obC hl5)).trans ?_
  refine (r_bp (dk D62 54 rfl) cb60).trans ?_
  refine (r_imul (dk D62 55 rfl)).trans ?_
  refine (r_aln (dk D62 56 rfl) rfl).trans ?_
  refine (r_getR (dk D62 57 rfl) ow62 q8_34 ob_4 rfl).trans ?_
  refine (r_il (dk D62 58 rfl) rfl).trans ?_
  refine (r_ald (dk D62 59 rfl) ar_9 (by decide) rfA9).trans (ck3 fun g1 => ?_)
  refine (r_getI (dk D62 60 rfl) ow62 q8_87 (obC (hp (Int32.toNatClampNeg l6)))).trans ?_
  refine (r_iadd (dk D62 61 rfl)).trans ?_
  refine (r_il (dk D62 62 rfl) rfl).trans ?_
  refine (r_ist (dk D62 63 rfl) ar_10).trans (ck3 fun g2 => ?_)
  refine (r_aln (dk D62 64 rfl) rfl).trans ?_
  refine (r_getR (dk D62 65 rfl) ow62 q8_41 ob_4 rfl).trans ?_
  refine (r_aln (dk D62 66 rfl) rfl).trans ?_
  refine (r_getR (dk D62 67 rfl) ow62 q8_34 ob_4 rfl).trans ?_
  refine (r_il (dk D62 68 rfl) rfl).trans ?_
  refine (r_ald (dk D62 69 rfl) ar_9 (by decide) rfA9).trans (ck3 fun g3 => ?_)
  refine (r_getI (dk D62 70 rfl) ow62 q8_87 (obC (hp (Int32.toNatClampNeg l6)))).trans ?_
  refine (r_bp (dk D62 71 rfl) cb60).trans ?_
  refine (r_imul (dk D62 72 rfl)).trans ?_
  refine (r_al (dk D62 73 rfl) rfl).trans ?_
  refine (r_getI (dk D62 74 rfl) ow62 q8_87 (obC hl5)).trans ?_
  refine (r_iadd (dk D62 75 rfl)).trans ?_
  refine (r_il (dk D62 76 rfl) rfl).trans ?_
  refine (r_ist (dk D62 77 rfl) ar_10).trans (ck3 fun g4 => ?_)
  refine (r_inc (L' := [.ref 4, .int l1, .int l2, .int l3, .int l4, .ref (200 + l5), .int (l6 + 1), .int s0]) (dk D62 78 rfl) rfl rfl ci1 (Nat.le_of_ble_eq_true rfl) rfl).trans ?_
  refine (r_goto (L' := [.ref 4, .int l1, .int l2, .int l3, .int l4, .ref (200 + l5), .int (l6 + 1), .retAddr 0]) (dk D62 79 rfl) rfl nd62_68 rfl).trans ?_
  exact rfl
set_option maxRecDepth 20000 in
theorem D63 : dOK 63 [(0, .aload_n 0, 1), (1, .getfield 34, 3), (4, .iload_n 1, 1), (5, .aaload, 1), (6, .astore_n 2, 1), (7, .iload_n 1, 1), (8, .istore_n 3, 1), (9, .iload_n 3, 1), (10, .aload_n 0, 1), (11, .getfield 51, 3), (14, .iconst 1, 1), (15, .isub, 1), (16, .if_icmp .ge 23, 3), (19, .aload_n 0, 1), (20, .getfield 34, 3), (23, .iload_n 3, 1), (24, .aload_n 0, 1), (25, .getfield 34, 3), (28, .iload_n 3, 1), (29, .iconst 1, 1), (30, .iadd, 1), (31, .aaload, 1), (32, .aastore, 1), (33, .iinc 3 1, 3), (36, .goto (-27), 3), (39, .aload_n 0, 1), (40, .getfield 34, 3), (43, .aload_n 0, 1), (44, .getfield 51, 3), (47, .iconst 1, 1), (48, .isub, 1), (49, .aload_n 2, 1), (50, .aastore, 1), (51, .aload_n 0, 1), (52, .dup, 1), (53, .getfield 51, 3), (56, .iconst 1, 1), (57, .isub, 1), (58, .putfield 51, 3), (61, .aload_n 0, 1), (62, .dup, 1), (63, .getfield 90, 3), (66, .iconst 1, 1), (67, .iadd, 1), (68, .putfield 90, 3), (71, .return_, 1)] = true := by decide +kernel
theorem E63_0 {d sl : Nat} {p : Nat → Nat} {I : Nat → Nat → Int32} {J : Nat → Nat → Int64} (a1 : Int32) (hp : ∀ k, p k < 60)  : den d 63 [.ref 4, .int a1] (S sl p I J) = ck (ixb 60 a1) (ev d 63 9 [.ref 4, .int a1, .ref (200 + p (Int32.toNatClampNeg a1)), .int a1] [] (S sl p I J)) := by
  refine (show den d 63 [.ref 4, .int a1] (S sl p I J) = ev d 63 0 [.ref 4, .int a1, .retAddr 0, .retAddr 0] [] (S sl p I J) from rfl).trans ?_
  refine (r_aln (dk D63 0 rfl) rfl).trans ?_
  refine (r_getR (dk D63 1 rfl) ow63 q8_34 ob_4 rfl).trans ?_
  refine (r_iln (dk D63 2 rfl) rfl).trans ?_
  refine (r_ald (dk D63 3 rfl) ar_9 (by decide) rfA9).trans (ck3 fun g1 => ?_)
  refine (r_asn (L' := [.ref 4, .int a1, .ref (200 + p (Int32.toNatClampNeg a1)), .retAddr 0]) (dk D63 4 rfl) (Nat.le_of_ble_eq_true rfl) rfl).trans ?_
  refine (r_iln (dk D63 5 rfl) rfl).trans ?_
  refine (r_isn (L' := [.ref 4, .int a1, .ref (200 + p (Int32.toNatClampNeg a1)), .int a1]) (dk D63 6 rfl) (Nat.le_of_ble_eq_true rfl) rfl).trans ?_
  exact rfl
theorem E63_9 {d sl : Nat} {p : Nat → Nat} {I : Nat → Nat → Int32} {J : Nat → Nat → Int64} (l1 : Int32) {l2 : Nat} (l3 : Int32) (hp : ∀ k, p k < 60) (hl2 : l2 < 60) : ev d 63 9 [.ref 4, .int l1, .ref (200 + l2), .int l3] [] (S sl p I J) = (if l3 < ((I 4 8) - 1) then ck (ixb 60 (l3 + 1)) (ck (ixb 60 l3) (ev d 63 9 [.ref 4, .int l1, .ref (200 + l2), .int (l3 + 1)] [] (S sl (va_up p (Int32.toNatClampNeg l3) (p (Int32.toNatClampNeg (l3 + 1)))) I J))) else ck (ixb 60 ((I 4 8) - 1)) (some (none, (S sl (va_up p (Int32.toNatClampNeg ((I 4 8) - 1)) (l2)) (up2 (up2 I 4 8 ((I 4 8) - 1)) 4 10 (((up2 I 4 8 ((I 4 8) - 1)) 4 10) + 1)) J)))) := by
  refine (r_iln (dk D63 7 rfl) rfl).trans ?_
  refine (r_aln (dk D63 8 rfl) rfl).trans ?_
  refine (r_getI (dk D63 9 rfl) ow63 q8_51 ob_4).trans ?_
  refine (r_ic (dk D63 10 rfl) ci1).trans ?_
  refine (r_isub (dk D63 11 rfl)).trans ?_
  refine (r_ge (dk D63 12 rfl) rfl).trans (ite2 ?_ ?_)
  · refine (r_aln (dk D63 13 rfl) rfl).trans ?_
    refine (r_getR (dk D63 14 rfl) ow63 q8_34 ob_4 rfl).trans ?_
    refine (r_iln (dk D63 15 rfl) rfl).trans ?_
    refine (r_aln (dk D63 16 rfl) rfl).trans ?_
    refine (r_getR (dk D63 17 rfl) ow63 q8_34 ob_4 rfl).trans ?_
    refine (r_iln (dk D63 18 rfl) rfl).trans ?_
    refine (r_ic (dk D63 19 rfl) ci1).trans ?_
    refine (r_iadd (dk D63 20 rfl)).trans ?_
    refine (r_ald (dk D63 21 rfl) ar_9 (by decide) rfA9).trans (ck3 fun g1 => ?_)
    refine (r_ast (dk D63 22 rfl) (obC (hp (Int32.toNatClampNeg (l3 + 1))))).trans (ck3 fun g2 => ?_)
    refine (r_inc (L' := [.ref 4, .int l1, .ref (200 + l2), .int (l3 + 1)]) (dk D63 23 rfl) rfl rfl ci1 (Nat.le_of_ble_eq_true rfl) rfl).trans ?_
    refine (r_goto (L' := [.ref 4, .int l1, .ref (200 + l2), .int (l3 + 1)]) (dk D63 24 rfl) rfl nd63_9 rfl).trans ?_
    exact rfl
  · refine (r_aln (dk D63 25 rfl) rfl).trans ?_
    refine (r_getR (dk D63 26 rfl) ow63 q8_34 ob_4 rfl).trans ?_
    refine (r_aln (dk D63 27 rfl) rfl).trans ?_
    refine (r_getI (dk D63 28 rfl) ow63 q8_51 ob_4).trans ?_
    refine (r_ic (dk D63 29 rfl) ci1).trans ?_
    refine (r_isub (dk D63 30 rfl)).trans ?_
    refine (r_aln (dk D63 31 rfl) rfl).trans ?_
    refine (r_ast (dk D63 32 rfl) (obC hl2)).trans (ck3 fun g3 => ?_)
    refine (r_aln (dk D63 33 rfl) rfl).trans ?_
    refine (r_dup (dk D63 34 rfl) rfl).trans ?_
    refine (r_getI (dk D63 35 rfl) ow63 q8_51 ob_4).trans ?_
    refine (r_ic (dk D63 36 rfl) ci1).trans ?_
    refine (r_isub (dk D63 37 rfl)).trans ?_
    refine (r_putI (dk D63 38 rfl) ow63 w8_51 ob_4).trans ?_
    refine (r_aln (dk D63 39 rfl) rfl).trans ?_
    refine (r_dup (dk D63 40 rfl) rfl).trans ?_
    refine (r_getI (dk D63 41 rfl) ow63 q8_90 ob_4).trans ?_
    refine (r_ic (dk D63 42 rfl) ci1).trans ?_
    refine (r_iadd (dk D63 43 rfl)).trans ?_
    refine (r_putI (dk D63 44 rfl) ow63 w8_90 ob_4).trans ?_
    exact r_rev (dk D63 45 rfl) rt63
set_option maxRecDepth 20000 in
theorem D64 : dOK 64 [(0, .aload_n 0, 1), (1, .iload_n 1, 1), (2, .putfield 44, 3), (5, .iconst 0, 1), (6, .istore_n 2, 1), (7, .iload_n 2, 1), (8, .aload_n 0, 1), (9, .getfield 51, 3), (12, .if_icmp .ge 45, 3), (15, .aload_n 0, 1), (16, .getfield 34, 3), (19, .iload_n 2, 1), (20, .aaload, 1), (21, .aload_n 0, 1), (22, .aload_n 0, 1), (23, .getfield 34, 3), (26, .iload_n 2, 1), (27, .aaload, 1), (28, .getfield 70, 3), (31, .aload_n 0, 1), (32, .getfield 27, 3), (35, .aload_n 0, 1), (36, .getfield 34, 3), (39, .iload_n 2, 1), (40, .aaload, 1), (41, .getfield 60, 3), (44, .aaload, 1), (45, .invokevirtual 77, 3), (48, .putfield 81, 3), (51, .iinc 2 1, 3), (54, .goto (-47), 3), (57, .aload_n 0, 1), (58, .dup, 1), (59, .getfield 90, 3), (62, .iconst 1, 1), (63, .iadd, 1), (64, .putfield 90, 3), (67, .return_, 1)] = true := by decide +kernel
theorem E64_0 {d sl : Nat} {p : Nat → Nat} {I : Nat → Nat → Int32} {J : Nat → Nat → Int64} (a1 : Int32)  : den d 64 [.ref 4, .int a1] (S sl p I J) = ev d 64 7 [.ref 4, .int a1, .int 0] [] (S sl p (up2 I 4 9 a1) J) := by
  refine (show den d 64 [.ref 4, .int a1] (S sl p I J) = ev d 64 0 [.ref 4, .int a1, .retAddr 0] [] (S sl p I J) from rfl).trans ?_
  refine (r_aln (dk D64 0 rfl) rfl).trans ?_
  refine (r_iln (dk D64 1 rfl) rfl).trans ?_
  refine (r_putI (dk D64 2 rfl) ow64 w8_44 ob_4).trans ?_
  refine (r_ic (dk D64 3 rfl) ci0).trans ?_
  refine (r_isn (L' := [.ref 4, .int a1, .int 0]) (dk D64 4 rfl) (Nat.le_of_ble_eq_true rfl) rfl).trans ?_
  exact rfl
theorem E64_7 {d sl : Nat} {p : Nat → Nat} {I : Nat → Nat → Int32} {J : Nat → Nat → Int64} (l1 : Int32) (l2 : Int32) (hp : ∀ k, p k < 60)  : ev (d + 1) 64 7 [.ref 4, .int l1, .int l2] [] (S sl p I J) = (if l2 < (I 4 8) then ck (ixb 60 l2) (ck (ixb 60 l2) (ck (ixb 60 l2) (ck (ixb 6 (I (200 + p (Int32.toNatClampNeg l2)) 2)) (evK (d + 1) 64 48 [.ref 4, .int l1, .int l2] [.ref (200 + p (Int32.toNatClampNeg l2))] (den d 65 [.ref 4, .ref (300 + p (Int32.toNatClampNeg l2)), .ref (100 + (Int32.toNatClampNeg (I (200 + p (Int32.toNatClampNeg l2)) 2)))] (S sl p I J)))))) else some (none, (S sl p (up2 I 4 10 ((I 4 10) + 1)) J))) := by
  refine (r_iln (dk D64 5 rfl) rfl).trans ?_
  refine (r_aln (dk D64 6 rfl) rfl).trans ?_
  refine (r_getI (dk D64 7 rfl) ow64 q8_51 ob_4).trans ?_
  refine (r_ge (dk D64 8 rfl) rfl).trans (ite2 ?_ ?_)
  · refine (r_aln (dk D64 9 rfl) rfl).trans ?_
    refine (r_getR (dk D64 10 rfl) ow64 q8_34 ob_4 rfl).trans ?_
    refine (r_iln (dk D64 11 rfl) rfl).trans ?_
    refine (r_ald (dk D64 12 rfl) ar_9 (by decide) rfA9).trans (ck3 fun g1 => ?_)
    refine (r_aln (dk D64 13 rfl) rfl).trans ?_
    refine (r_aln (dk D64 14 rfl) rfl).trans ?_
    refine (r_getR (dk D64 15 rfl) ow64 q8_34 ob_4 rfl).trans ?_
    refine (r_iln (dk D64 16 rfl) rfl).trans ?_
    refine (r_ald (dk D64 17 rfl) ar_9 (by decide) rfA9).trans (ck3 fun g2 => ?_)
    refine (r_getR (dk D64 18 rfl) ow64 q8_70 (obC (hp (Int32.toNatClampNeg l2))) (rfC (hp (Int32.toNatClampNeg l2)))).trans ?_
    refine (r_aln (dk D64 19 rfl) rfl).trans ?_
    refine (r_getR (dk D64 20 rfl) ow64 q8_27 ob_4 rfl).trans ?_
    refine (r_aln (dk D64 21 rfl) rfl).trans ?_
    refine (r_getR (dk D64 22 rfl) ow64 q8_34 ob_4 rfl).trans ?_
    refine (r_iln (dk D64 23 rfl) rfl).trans ?_
    refine (r_ald (dk D64 24 rfl) ar_9 (by decide) rfA9).trans (ck3 fun g3 => ?_)
    refine (r_getI (dk D64 25 rfl) ow64 q8_60 (obC (hp (Int32.toNatClampNeg l2)))).trans ?_
    refine (r_ald (dk D64 26 rfl) ar_8 (by decide) rfA8).trans (ck3 fun g4 => ?_)
    exact r_cv (dk D64 27 rfl) ow64 c8_77 mf65 (Nat.le_of_ble_eq_true rfl) rfl rfl (Nat.le_of_ble_eq_true rfl) (Nat.le_of_ble_eq_true rfl) ob_4
  · refine (r_aln (dk D64 31 rfl) rfl).trans ?_
    refine (r_dup (dk D64 32 rfl) rfl).trans ?_
    refine (r_getI (dk D64 33 rfl) ow64 q8_90 ob_4).trans ?_
    refine (r_ic (dk D64 34 rfl) ci1).trans ?_
    refine (r_iadd (dk D64 35 rfl)).trans ?_
    refine (r_putI (dk D64 36 rfl) ow64 w8_90 ob_4).trans ?_
    exact r_rev (dk D64 37 rfl) rt64
theorem E64_48 {d sl : Nat} {p : Nat → Nat} {I : Nat → Nat → Int32} {J : Nat → Nat → Int64} (l1 : Int32) (l2 : Int32) (s0 : Int32) {s1 : Nat} (hs1 : s1 < 60) : ev d 64 48 [.ref 4, .int l1, .int l2] [.int s0, .ref (200 + s1)] (S sl p I J) = ev d 64 7 [.ref 4, .int l1, .int (l2 + 1)] [] (S sl p (up2 I (200 + s1) 8 s0) J) := by
  refine (r_putI (dk D64 28 rfl) ow64 w8_81 (obC hs1)).trans ?_
  refine (r_inc (L' := [.ref 4, .int l1, .int (l2 + 1)]) (dk D64 29 rfl) rfl rfl ci1 (Nat.le_of_ble_eq_true rfl) rfl).trans ?_
  refine (r_goto (L' := [.ref 4, .int l1, .int (l2 + 1)]) (dk D64 30 rfl) rfl nd64_7 rfl).trans ?_
  exact rfl
set_option maxRecDepth 20000 in
theorem D65 : dOK 65 [(0, .aload_n 1, 1), (1, .aload_n 2, 1), (2, .invokevirtual 93, 3), (5, .lstore_n 3, 1), (6, .aload_n 0, 1), (7, .getfield 44, 3), (10, .sipush 1000, 3), (13, .imul, 1), (14, .i2l, 1), (15, .lstore 5, 2), (17, .lload_n 3, 1), (18, .lconst 0, 1), (19, .lcmp, 1), (20, .ifCond .ne 7, 3), (23, .lload 5, 2), (25, .l2i, 1), (26, .ireturn, 1), (27, .ldc2_w 97, 3), (30, .aload_n 1, 1), (31, .invokevirtual 99, 3), (34, .aload_n 2, 1), (35, .invokevirtual 99, 3), (38, .lmul, 1), (39, .lmul, 1), (40, .lload_n 3, 1), (41, .lload_n 3, 1), (42, .lmul, 1), (43, .invokestatic 103, 3), (46, .lstore 7, 2), (48, .lload 7, 2), (50, .lload 5, 2), (52, .lload 5, 2), (54, .lmul, 1), (55, .lcmp, 1), (56, .ifCond .lt 8, 3), (59, .lload 5, 2), (61, .goto 8, 3), (64, .lload 7, 2), (66, .invokestatic 107, 3), (69, .l2i, 1), (70, .ireturn, 1)] = true := by decide +kernel
theorem E65_0 {d sl : Nat} {p : Nat → Nat} {I : Nat → Nat → Int32} {J : Nat → Nat → Int64} {a1 : Nat} {a2 : Nat} (h1 : ob a1 0) (h2 : ob a2 0) : den (d + 1) 65 [.ref 4, .ref a1, .ref a2] (S sl p I J) = evK (d + 1) 65 5 [.ref 4, .ref a1, .ref a2, .retAddr 0, .retAddr 0, .retAddr 0, .retAddr 0, .retAddr 0, .retAddr 0] [] (den d 4 [.ref a1, .ref a2] (S sl p I J)) := by
  refine (show den (d + 1) 65 [.ref 4, .ref a1, .ref a2] (S sl p I J) = ev (d + 1) 65 0 [.ref 4, .ref a1, .ref a2, .retAddr 0, .retAddr 0, .retAddr 0, .retAddr 0, .retAddr 0, .retAddr 0] [] (S sl p I J) from rfl).trans ?_
  refine (r_aln (dk D65 0 rfl) rfl).trans ?_
  refine (r_aln (dk D65 1 rfl) rfl).trans ?_
  exact r_cv (dk D65 2 rfl) ow65 c8_93 mf4 (Nat.le_of_ble_eq_true rfl) rfl rfl (Nat.le_of_ble_eq_true rfl) (Nat.le_of_ble_eq_true rfl) h1
theorem E65_5 {d sl : Nat} {p : Nat → Nat} {I : Nat → Nat → Int32} {J : Nat → Nat → Int64} {l1 : Nat} {l2 : Nat} (s0 : Int64) (hl1 : ob l1 0) (hl2 : ob l2 0) : ev (d + 1) 65 5 [.ref 4, .ref l1, .ref l2, .retAddr 0, .retAddr 0, .retAddr 0, .retAddr 0, .retAddr 0, .retAddr 0] [.long s0] (S sl p I J) = (if s0 = 0 then some (some (.int (Int64.toInt32 (Int32.toInt64 ((I 4 9) * 1000)))), (S sl p I J)) else evK (d + 1) 65 34 [.ref 4, .ref l1, .ref l2, .long s0, .retAddr 0, .long (Int32.toInt64 ((I 4 9) * 1000)), .retAddr 0, .retAddr 0, .retAddr 0] [.long 1000000] (den d 5 [.ref l1] (S sl p I J))) := by
  refine (r_lsn (L' := [.ref 4, .ref l1, .ref l2, .long s0, .retAddr 0, .retAddr 0, .retAddr 0, .retAddr 0, .retAddr 0]) (dk D65 3 rfl) (Nat.le_of_ble_eq_true rfl) rfl).trans ?_
  refine (r_aln (dk D65 4 rfl) rfl).trans ?_
  refine (r_getI (dk D65 5 rfl) ow65 q8_44 ob_4).trans ?_
  refine (r_sp (dk D65 6 rfl) cs1000).trans ?_
  refine (r_imul (dk D65 7 rfl)).trans ?_
  refine (r_i2l (dk D65 8 rfl)).trans ?_
  refine (r_ls (L' := [.ref 4, .ref l1, .ref l2, .long s0, .retAddr 0, .long (Int32.toInt64 ((I 4 9) * 1000)), .retAddr 0, .retAddr 0, .retAddr 0]) (dk D65 9 rfl) (Nat.le_of_ble_eq_true rfl) rfl).trans ?_
  refine (r_lln (dk D65 10 rfl) rfl).trans ?_
  refine (r_lc (dk D65 11 rfl) cl0).trans ?_
  refine (r_jne (dk D65 12 rfl) (dk D65 13 rfl) rfl).trans (ite2 ?_ ?_)
  · refine (r_ll (dk D65 14 rfl) rfl).trans ?_
    refine (r_l2i (dk D65 15 rfl)).trans ?_
    exact r_ret (dk D65 16 rfl) rt65
  · refine (r_ld2 (dk D65 17 rfl) ow65 kk8_97).trans ?_
    refine (r_aln (dk D65 18 rfl) rfl).trans ?_
    exact r_cv (dk D65 19 rfl) ow65 c8_99 mf5 (Nat.le_of_ble_eq_true rfl) rfl rfl (Nat.le_of_ble_eq_true rfl) (Nat.le_of_ble_eq_true rfl) hl1
theorem E65_34 {d sl : Nat} {p : Nat → Nat} {I : Nat → Nat → Int32} {J : Nat → Nat → Int64} {l1 : Nat} {l2 : Nat} (l3 : Int64) (l5 : Int64) (s0 : Int64) (s1 : Int64) (hl1 : ob l1 0) (hl2 : ob l2 0) : ev (d + 1) 65 34 [.ref 4, .ref l1, .ref l2, .long l3, .retAddr 0, .long l5, .retAddr 0, .retAddr 0, .retAddr 0] [.long s0, .long s1] (S sl p I J) = evK (d + 1) 65 38 [.ref 4, .ref l1, .ref l2, .long l3, .retAddr 0, .long l5, .retAddr 0, .retAddr 0, .retAddr 0] [.long s0, .long s1] (den d 5 [.ref l2] (S sl p I J)) := by
  refine (r_aln (dk D65 20 rfl) rfl).trans ?_
  exact r_cv (dk D65 21 rfl) ow65 c8_99 mf5 (Nat.le_of_ble_eq_true rfl) rfl rfl (Nat.le_of_ble_eq_true rfl) (Nat.le_of_ble_eq_true rfl) hl2
theorem E65_38 {d sl : Nat} {p : Nat → Nat} {I : Nat → Nat → Int32} {J : Nat → Nat → Int64} {l1 : Nat} {l2 : Nat} (l3 : Int64) (l5 : Int64) (s0 : Int64) (s1 : Int64) (s2 : Int64) (hl1 : ob l1 0) (hl2 : ob l2 0) : ev (d + 1) 65 38 [.ref 4, .ref l1, .ref l2, .long l3, .retAddr 0, .long l5, .retAddr 0, .retAddr 0, .retAddr 0] [.long s0, .long s1, .long s2] (S sl p I J) = evK (d + 1) 65 46 [.ref 4, .ref l1, .ref l2, .long l3, .retAddr 0, .long l5, .retAddr 0, .retAddr 0, .retAddr 0] [] (den d 170 [.long (s2 * (s1 * s0)), .long (l3 * l3)] (S sl p I J)) := by
  refine (r_lmul (dk D65 22 rfl)).trans ?_
  refine (r_lmul (dk D65 23 rfl)).trans ?_
  refine (r_lln (dk D65 24 rfl) rfl).trans ?_
  refine (r_lln (dk D65 25 rfl) rfl).trans ?_
  refine (r_lmul (dk D65 26 rfl)).trans ?_
  exact r_cs (dk D65 27 rfl) ow65 pn8_103 c8_103 mf170 (Nat.le_of_ble_eq_true rfl) rfl rfl (Nat.le_of_ble_eq_true rfl) (Nat.le_of_ble_eq_true rfl)
theorem E65_46 {d sl : Nat} {p : Nat → Nat} {I : Nat → Nat → Int32} {J : Nat → Nat → Int64} {l1 : Nat} {l2 : Nat} (l3 : Int64) (l5 : Int64) (s0 : Int64) (hl1 : ob l1 0) (hl2 : ob l2 0) : ev (d + 1) 65 46 [.ref 4, .ref l1, .ref l2, .long l3, .retAddr 0, .long l5, .retAddr 0, .retAddr 0, .retAddr 0] [.long s0] (S sl p I J) = (if s0 < (l5 * l5) then evK (d + 1) 65 69 [.ref 4, .ref l1, .ref l2, .long l3, .retAddr 0, .long l5, .retAddr 0, .long s0, .retAddr 0] [] (den d 171 [.long s0] (S sl p I J)) else some (some (.int (Int64.toInt32 l5)), (S sl p I J))) := by
  refine (r_ls (L' := [.ref 4, .ref l1, .ref l2, .long l3, .retAddr 0, .long l5, .retAddr 0, .long s0, .retAddr 0]) (dk D65 28 rfl) (Nat.le_of_ble_eq_true rfl) rfl).trans ?_
  refine (r_ll (dk D65 29 rfl) rfl).trans ?_
  refine (r_ll (dk D65 30 rfl) rfl).trans ?_
  refine (r_ll (dk D65 31 rfl) rfl).trans ?_
  refine (r_lmul (dk D65 32 rfl)).trans ?_
  refine (r_jlt (dk D65 33 rfl) (dk D65 34 rfl) rfl).trans (ite2 ?_ ?_)
  · refine (r_ll (dk D65 37 rfl) rfl).trans ?_
    exact r_cs (dk D65 38 rfl) ow65 pn8_107 c8_107 mf171 (Nat.le_of_ble_eq_true rfl) rfl rfl (Nat.le_of_ble_eq_true rfl) (Nat.le_of_ble_eq_true rfl)
  · refine (r_ll (dk D65 35 rfl) rfl).trans ?_
    refine (r_goto (L' := [.ref 4, .ref l1, .ref l2, .long l3, .retAddr 0, .long l5, .retAddr 0, .long s0, .retAddr 0]) (dk D65 36 rfl) rfl nd65_69 rfl).trans ?_
    refine (r_l2i (dk D65 39 rfl)).trans ?_
    exact r_ret (dk D65 40 rfl) rt65
theorem E65_69 {d sl : Nat} {p : Nat → Nat} {I : Nat → Nat → Int32} {J : Nat → Nat → Int64} {l1 : Nat} {l2 : Nat} (l3 : Int64) (l5 : Int64) (l7 : Int64) (s0 : Int64) (hl1 : ob l1 0) (hl2 : ob l2 0) : ev d 65 69 [.ref 4, .ref l1, .ref l2, .long l3, .retAddr 0, .long l5, .retAddr 0, .long l7, .retAddr 0] [.long s0] (S sl p I J) = some (some (.int (Int64.toInt32 s0)), (S sl p I J)) := by
  refine (r_l2i (dk D65 39 rfl)).trans ?_
  exact r_ret (dk D65 40 rfl) rt65
set_option maxRecDepth 20000 in
theorem D66 : dOK 66 [(0, .aload_n 0, 1), (1, .getfield 41, 3), (4, .aload_n 0, 1), (5, .getfield 34, 3), (8, .iload_n 1, 1), (9, .aaload, 1), (10, .getfield 87, 3), (13, .bipush 60, 2), (15, .imul, 1), (16, .aload_n 0, 1), (17, .getfield 34, 3), (20, .iload_n 2, 1), (21, .aaload, 1), (22, .getfield 87, 3), (25, .iadd, 1), (26, .iaload, 1), (27, .ireturn, 1)] = true := by decide +kernel
theorem E66_0 {d sl : Nat} {p : Nat → Nat} {I : Nat → Nat → Int32} {J : Nat → Nat → Int64} (a1 : Int32) (a2 : Int32) (hp : ∀ k, p k < 60)  : den d 66 [.ref 4, .int a1, .int a2] (S sl p I J) = ck (ixb 60 a1) (ck (ixb 60 a2) (ck (ixb 3600 (((I (200 + p (Int32.toNatClampNeg a1)) 0) * 60) + (I (200 + p (Int32.toNatClampNeg a2)) 0))) (some (some (.int (I 10 (Int32.toNatClampNeg (((I (200 + p (Int32.toNatClampNeg a1)) 0) * 60) + (I (200 + p (Int32.toNatClampNeg a2)) 0))))), (S sl p I J))))) := by
  refine (show den d 66 [.ref 4, .int a1, .int a2] (S sl p I J) = ev d 66 0 [.ref 4, .int a1, .int a2] [] (S sl p I J) from rfl).trans ?_
  refine (r_aln (dk D66 0 rfl) rfl).trans ?_
  refine (r_getR (dk D66 1 rfl) ow66 q8_41 ob_4 rfl).trans ?_
  refine (r_aln (dk D66 2 rfl) rfl).trans ?_
  refine (r_getR (dk D66 3 rfl) ow66 q8_34 ob_4 rfl).trans ?_
  refine (r_iln (dk D66 4 rfl) rfl).trans ?_
  refine (r_ald (dk D66 5 rfl) ar_9 (by decide) rfA9).trans (ck3 fun g1 => ?_)
  refine (r_getI (dk D66 6 rfl) ow66 q8_87 (obC (hp (Int32.toNatClampNeg a1)))).trans ?_
  refine (r_bp (dk D66 7 rfl) cb60).trans ?_
  refine (r_imul (dk D66 8 rfl)).trans ?_
  refine (r_aln (dk D66 9 rfl) rfl).trans ?_
  refine (r_getR (dk D66 10 rfl) ow66 q8_34 ob_4 rfl).trans ?_
  refine (r_iln (dk D66 11 rfl) rfl).trans ?_
  refine (r_ald (dk D66 12 rfl) ar_9 (by decide) rfA9).trans (ck3 fun g2 => ?_)
  refine (r_getI (dk D66 13 rfl) ow66 q8_87 (obC (hp (Int32.toNatClampNeg a2)))).trans ?_
  refine (r_iadd (dk D66 14 rfl)).trans ?_
  refine (r_ild (dk D66 15 rfl) ar_10).trans (ck3 fun g3 => ?_)
  exact r_ret (dk D66 16 rfl) rt66
set_option maxRecDepth 20000 in
theorem D67 : dOK 67 [(0, .iconst 0, 1), (1, .istore_n 3, 1), (2, .iconst 0, 1), (3, .istore 4, 2), (5, .iload 4, 2), (7, .aload_n 0, 1), (8, .getfield 51, 3), (11, .if_icmp .ge 23, 3), (14, .aload_n 0, 1), (15, .iload_n 1, 1), (16, .iload 4, 2), (18, .invokevirtual 111, 3), (21, .iload_n 2, 1), (22, .if_icmp .gt 6, 3), (25, .iinc 3 1, 3), (28, .iinc 4 1, 3), (31, .goto (-26), 3), (34, .iload_n 3, 1), (35, .ireturn, 1)] = true := by decide +kernel
theorem E67_0 {d sl : Nat} {p : Nat → Nat} {I : Nat → Nat → Int32} {J : Nat → Nat → Int64} (a1 : Int32) (a2 : Int32)  : den d 67 [.ref 4, .int a1, .int a2] (S sl p I J) = ev d 67 5 [.ref 4, .int a1, .int a2, .int 0, .int 0] [] (S sl p I J) := by
  refine (show den d 67 [.ref 4, .int a1, .int a2] (S sl p I J) = ev d 67 0 [.ref 4, .int a1, .int a2, .retAddr 0, .retAddr 0] [] (S sl p I J) from rfl).trans ?_
  refine (r_ic (dk D67 0 rfl) ci0).trans ?_
  refine (r_isn (L' := [.ref 4, .int a1, .int a2, .int 0, .retAddr 0]) (dk D67 1 rfl) (Nat.le_of_ble_eq_true rfl) rfl).trans ?_
  refine (r_ic (dk D67 2 rfl) ci0).trans ?_
  refine (r_is (L' := [.ref 4, .int a1, .int a2, .int 0, .int 0]) (dk D67 3 rfl) (Nat.le_of_ble_eq_true rfl) rfl).trans ?_
  exact rfl
theorem E67_5 {d sl : Nat} {p : Nat → Nat} {I : Nat → Nat → Int32} {J : Nat → Nat → Int64} (l1 : Int32) (l2 : Int32) (l3 : Int32) (l4 : Int32)  : ev (d + 1) 67 5 [.ref 4, .int l1, .int l2, .int l3, .int l4] [] (S sl p I J) = (if l4 < (I 4 8) then evK (d + 1) 67 21 [.ref 4, .int l1, .int l2, .int l3, .int l4] [] (den d 66 [.ref 4, .int l1, .int l4] (S sl p I J)) else some (some (.int l3), (S sl p I J))) := by
  refine (r_il (dk D67 4 rfl) rfl).trans ?_
  refine (r_aln (dk D67 5 rfl) rfl).trans ?_
  refine (r_getI (dk D67 6 rfl) ow67 q8_51 ob_4).trans ?_
  refine (r_ge (dk D67 7 rfl) rfl).trans (ite2 ?_ ?_)
  · refine (r_aln (dk D67 8 rfl) rfl).trans ?_
    refine (r_iln (dk D67 9 rfl) rfl).trans ?_
    refine (r_il (dk D67 10 rfl) rfl).trans ?_
    exact r_cv (dk D67 11 rfl) ow67 c8_111 mf66 (Nat.le_of_ble_eq_true rfl) rfl rfl (Nat.le_of_ble_eq_true rfl) (Nat.le_of_ble_eq_true rfl) ob_4
  · refine (r_iln (dk D67 17 rfl) rfl).trans ?_
    exact r_ret (dk D67 18 rfl) rt67
theorem E67_21 {d sl : Nat} {p : Nat → Nat} {I : Nat → Nat → Int32} {J : Nat → Nat → Int64} (l1 : Int32) (l2 : Int32) (l3 : Int32) (l4 : Int32) (s0 : Int32)  : ev d 67 21 [.ref 4, .int l1, .int l2, .int l3, .int l4] [.int s0] (S sl p I J) = (if s0 ≤ l2 then ev d 67 5 [.ref 4, .int l1, .int l2, .int (l3 + 1), .int (l4 + 1)] [] (S sl p I J) else ev d 67 5 [.ref 4, .int l1, .int l2, .int l3, .int (l4 + 1)] [] (S sl p I J)) := by
  refine (r_iln (dk D67 12 rfl) rfl).trans ?_
  refine (r_gt (dk D67 13 rfl) rfl).trans (ite2 ?_ ?_)
  · refine (r_inc (L' := [.ref 4, .int l1, .int l2, .int (l3 + 1), .int l4]) (dk D67 14 rfl) rfl rfl ci1 (Nat.le_of_ble_eq_true rfl) rfl).trans ?_
    refine (r_inc (L' := [.ref 4, .int l1, .int l2, .int (l3 + 1), .int (l4 + 1)]) (dk D67 15 rfl) rfl rfl ci1 (Nat.le_of_ble_eq_true rfl) rfl).trans ?_
    refine (r_goto (L' := [.ref 4, .int l1, .int l2, .int (l3 + 1), .int (l4 + 1)]) (dk D67 16 rfl) rfl nd67_5 rfl).trans ?_
    exact rfl
  · refine (r_inc (L' := [.ref 4, .int l1, .int l2, .int l3, .int (l4 + 1)]) (dk D67 15 rfl) rfl rfl ci1 (Nat.le_of_ble_eq_true rfl) rfl).trans ?_
    refine (r_goto (L' := [.ref 4, .int l1, .int l2, .int l3, .int (l4 + 1)]) (dk D67 16 rfl) rfl nd67_5 rfl).trans ?_
    exact rfl
set_option maxRecDepth 20000 in
theorem D68 : dOK 68 [(0, .iconst 0, 1), (1, .istore_n 2, 1), (2, .iconst 0, 1), (3, .istore_n 3, 1), (4, .iload_n 3, 1), (5, .aload_n 0, 1), (6, .getfield 51, 3), (9, .if_icmp .ge 33, 3), (12, .aload_n 0, 1), (13, .getfield 34, 3), (16, .iload_n 3, 1), (17, .aaload, 1), (18, .getfield 115, 3), (21, .aload_n 0, 1), (22, .getfield 34, 3), (25, .iload_n 1, 1), (26, .aaload, 1), (27, .getfield 115, 3), (30, .if_icmp .ne 6, 3), (33, .iinc 2 1, 3), (36, .iinc 3 1, 3), (39, .goto (-35), 3), (42, .iload_n 2, 1), (43, .ireturn, 1)] = true := by decide +kernel
theorem E68_0 {d sl : Nat} {p : Nat → Nat} {I : Nat → Nat → Int32} {J : Nat → Nat → Int64} (a1 : Int32)  : den d 68 [.ref 4, .int a1] (S sl p I J) = ev d 68 4 [.ref 4, .int a1, .int 0, .int 0] [] (S sl p I J) := by
  refine (show den d 68 [.ref 4, .int a1] (S sl p I J) = ev d 68 0 [.ref 4, .int a1, .retAddr 0, .retAddr 0] [] (S sl p I J) from rfl).trans ?_
  refine (r_ic (dk D68 0 rfl) ci0).trans ?_
  refine (r_isn (L' := [.ref 4, .int a1, .int 0, .retAddr 0]) (dk D68 1 rfl) (Nat.le_of_ble_eq_true rfl) rfl).trans ?_
  refine (r_ic (dk D68 2 rfl) ci0).trans ?_
  refine (r_isn (L' := [.ref 4, .int a1, .int 0, .int 0]) (dk D68 3 rfl) (Nat.le_of_ble_eq_true rfl) rfl).trans ?_
  exact rfl
theorem E68_4 {d sl : Nat} {p : Nat → Nat} {I : Nat → Nat → Int32} {J : Nat → Nat → Int64} (l1 : Int32) (l2 : Int32) (l3 : Int32) (hp : ∀ k, p k < 60)  : ev d 68 4 [.ref 4, .int l1, .int l2, .int l3] [] (S sl p I J) = (if l3 < (I 4 8) then ck (ixb 60 l3) (ck (ixb 60 l1) ((if (I (200 + p (Int32.toNatClampNeg l3)) 7) = (I (200 + p (Int32.toNatClampNeg l1)) 7) then ev d 68 4 [.ref 4, .int l1, .int (l2 + 1), .int (l3 + 1)] [] (S sl p I J) else ev d 68 4 [.ref 4, .int l1, .int l2, .int (l3 + 1)] [] (S sl p I J)))) else some (some (.int l2), (S sl p I J))) := by
  refine (r_iln (dk D68 4 rfl) rfl).trans ?_
  refine (r_aln (dk D68 5 rfl) rfl).trans ?_
  refine (r_getI (dk D68 6 rfl) ow68 q8_51 ob_4).trans ?_
  refine (r_ge (dk D68 7 rfl) rfl).trans (ite2 ?_ ?_)
  · refine (r_aln (dk D68 8 rfl) rfl).trans ?_
    refine (r_getR (dk D68 9 rfl) ow68 q8_34 ob_4 rfl).trans ?_
    refine (r_iln (dk D68 10 rfl) rfl).trans ?_
    refine (r_ald (dk D68 11 rfl) ar_9 (by decide) rfA9).trans (ck3 fun g1 => ?_)
    refine (r_getI (dk D68 12 rfl) ow68 q8_115 (obC (hp (Int32.toNatClampNeg l3)))).trans ?_
    refine (r_aln (dk D68 13 rfl) rfl).trans ?_
    refine (r_getR (dk D68 14 rfl) ow68 q8_34 ob_4 rfl).trans ?_
    refine (r_iln (dk D68 15 rfl) rfl).trans ?_
    refine (r_ald (dk D68 16 rfl) ar_9 (by decide) rfA9).trans (ck3 fun g2 => ?_)
    refine (r_getI (dk D68 17 rfl) ow68 q8_115 (obC (hp (Int32.toNatClampNeg l1)))).trans ?_
    refine (r_ne (dk D68 18 rfl) rfl).trans (ite2 ?_ ?_)
    · refine (r_inc (L' := [.ref 4, .int l1, .int (l2 + 1), .int l3]) (dk D68 19 rfl) rfl rfl ci1 (Nat.le_of_ble_eq_true rfl) rfl).trans ?_
      refine (r_inc (L' := [.ref 4, .int l1, .int (l2 + 1), .int (l3 + 1)]) (dk D68 20 rfl) rfl rfl ci1 (Nat.le_of_ble_eq_true rfl) rfl).trans ?_
      refine (r_goto (L' := [.ref 4, .int l1, .int (l2 + 1), .int (l3 + 1)]) (dk D68 21 rfl) rfl nd68_4 rfl).trans ?_
      exact rfl
    · refine (r_inc (L' := [.ref 4, .int l1, .int l2, .int (l3 + 1)]) (dk D68 20 rfl) rfl rfl ci1 (Nat.le_of_ble_eq_true rfl) rfl).trans ?_
      refine (r_goto (L' := [.ref 4, .int l1, .int l2, .int (l3 + 1)]) (dk D68 21 rfl) rfl nd68_4 rfl).trans ?_
      exact rfl
  · refine (r_iln (dk D68 22 rfl) rfl).trans ?_
    exact r_ret (dk D68 23 rfl) rt68
set_option maxRecDepth 20000 in
theorem D69 : dOK 69 [(0, .iconst 0, 1), (1, .istore_n 1, 1), (2, .iconst 0, 1), (3, .istore_n 2, 1), (4, .iload_n 2, 1), (5, .aload_n 0, 1), (6, .getfield 51, 3), (9, .if_icmp .ge 20, 3), (12, .aload_n 0, 1), (13, .iload_n 2, 1), (14, .invokevirtual 118, 3), (17, .ifCond .eq 6, 3), (20, .iinc 1 1, 3), (23, .iinc 2 1, 3), (26, .goto (-22), 3), (29, .iload_n 1, 1), (30, .ireturn, 1)] = true := by decide +kernel
theorem E69_0 {d sl : Nat} {p : Nat → Nat} {I : Nat → Nat → Int32} {J : Nat → Nat → Int64}   : den d 69 [.ref 4] (S sl p I J) = ev d 69 4 [.ref 4, .int 0, .int 0] [] (S sl p I J) := by
  refine (show den d 69 [.ref 4] (S sl p I J) = ev d 69 0 [.ref 4, .retAddr 0, .retAddr 0] [] (S sl p I J) from rfl).trans ?_
  refine (r_ic (dk D69 0 rfl) ci0).trans ?_
  refine (r_isn (L' := [.ref 4, .int 0, .retAddr 0]) (dk D69 1 rfl) (Nat.le_of_ble_eq_true rfl) rfl).trans ?_
  refine (r_ic (dk D69 2 rfl) ci0).trans ?_
  refine (r_isn (L' := [.ref 4, .int 0, .int 0]) (dk D69 3 rfl) (Nat.le_of_ble_eq_true rfl) rfl).trans ?_
  exact rfl
theorem E69_4 {d sl : Nat} {p : Nat → Nat} {I : Nat → Nat → Int32} {J : Nat → Nat → Int64} (l1 : Int32) (l2 : Int32)  : ev (d + 1) 69 4 [.ref 4, .int l1, .int l2] [] (S sl p I J) = (if l2 < (I 4 8) then evK (d + 1) 69 17 [.ref 4, .int l1, .int l2] [] (den d 70 [.ref 4, .int l2] (S sl p I J)) else some (some (.int l1), (S sl p I J))) := by
  refine (r_iln (dk D69 4 rfl) rfl).trans ?_
  refine (r_aln (dk D69 5 rfl) rfl).trans ?_
  refine (r_getI (dk D69 6 rfl) ow69 q8_51 ob_4).trans ?_
  refine (r_ge (dk D69 7 rfl) rfl).trans (ite2 ?_ ?_)
  · refine (r_aln (dk D69 8 rfl) rfl).trans ?_
    refine (r_iln (dk D69 9 rfl) rfl).trans ?_
    exact r_cv (dk D69 10 rfl) ow69 c8_118 mf70 (Nat.le_of_ble_eq_true rfl) rfl rfl (Nat.le_of_ble_eq_true rfl) (Nat.le_of_ble_eq_true rfl) ob_4
  · refine (r_iln (dk D69 15 rfl) rfl).trans ?_
    exact r_ret (dk D69 16 rfl) rt69
theorem E69_17 {d sl : Nat} {p : Nat → Nat} {I : Nat → Nat → Int32} {J : Nat → Nat → Int64} (l1 : Int32) (l2 : Int32) (s0 : Int32)  : ev d 69 17 [.ref 4, .int l1, .int l2] [.int s0] (S sl p I J) = (if s0 = 0 then ev d 69 4 [.ref 4, .int l1, .int (l2 + 1)] [] (S sl p I J) else ev d 69 4 [.ref 4, .int (l1 + 1), .int (l2 + 1)] [] (S sl p I J)) := by
  refine (r_eq0 (dk D69 11 rfl) rfl).trans (ite2 ?_ ?_)
  · refine (r_inc (L' := [.ref 4, .int l1, .int (l2 + 1)]) (dk D69 13 rfl) rfl rfl ci1 (Nat.le_of_ble_eq_true rfl) rfl).trans ?_
    refine (r_goto (L' := [.ref 4, .int l1, .int (l2 + 1)]) (dk D69 14 rfl) rfl nd69_4 rfl).trans ?_
    exact rfl
  · refine (r_inc (L' := [.ref 4, .int (l1 + 1), .int l2]) (dk D69 12 rfl) rfl rfl ci1 (Nat.le_of_ble_eq_true rfl) rfl).trans ?_
    refine (r_inc (L' := [.ref 4, .int (l1 + 1), .int (l2 + 1)]) (dk D69 13 rfl) rfl rfl ci1 (Nat.le_of_ble_eq_true rfl) rfl).trans ?_
    refine (r_goto (L' := [.ref 4, .int (l1 + 1), .int (l2 + 1)]) (dk D69 14 rfl) rfl nd69_4 rfl).trans ?_
    exact rfl
set_option maxRecDepth 20000 in
theorem D70 : dOK 70 [(0, .iconst 0, 1), (1, .istore_n 2, 1), (2, .iload_n 2, 1), (3, .iload_n 1, 1), (4, .if_icmp .ge 32, 3), (7, .aload_n 0, 1), (8, .getfield 34, 3), (11, .iload_n 2, 1), (12, .aaload, 1), (13, .getfield 115, 3), (16, .aload_n 0, 1), (17, .getfield 34, 3), (20, .iload_n 1, 1), (21, .aaload, 1), (22, .getfield 115, 3), (25, .if_icmp .ne 5, 3), (28, .iconst 0, 1), (29, .ireturn, 1), (30, .iinc 2 1, 3), (33, .goto (-31), 3), (36, .iconst 1, 1), (37, .ireturn, 1)] = true := by decide +kernel
theorem E70_0 {d sl : Nat} {p : Nat → Nat} {I : Nat → Nat → Int32} {J : Nat → Nat → Int64} (a1 : Int32)  : den d 70 [.ref 4, .int a1] (S sl p I J) = ev d 70 2 [.ref 4, .int a1, .int 0] [] (S sl p I J) := by
  refine (show den d 70 [.ref 4, .int a1] (S sl p I J) = ev d 70 0 [.ref 4, .int a1, .retAddr 0] [] (S sl p I J) from rfl).trans ?_
  refine (r_ic (dk D70 0 rfl) ci0).trans ?_
  refine (r_isn (L' := [.ref 4, .int a1, .int 0]) (dk D70 1 rfl) (Nat.le_of_ble_eq_true rfl) rfl).trans ?_
  exact rfl
theorem E70_2 {d sl : Nat} {p : Nat → Nat} {I : Nat → Nat → Int32} {J : Nat → Nat → Int64} (l1 : Int32) (l2 : Int32) (hp : ∀ k, p k < 60)  : ev d 70 2 [.ref 4, .int l1, .int l2] [] (S sl p I J) = (if l2 < l1 then ck (ixb 60 l2) (ck (ixb 60 l1) ((if (I (200 + p (Int32.toNatClampNeg l2)) 7) = (I (200 + p (Int32.toNatClampNeg l1)) 7) then some (some (.int 0), (S sl p I J)) else ev d 70 2 [.ref 4, .int l1, .int (l2 + 1)] [] (S sl p I J)))) else some (some (.int 1), (S sl p I J))) := by
  refine (r_iln (dk D70 2 rfl) rfl).trans ?_
  refine (r_iln (dk D70 3 rfl) rfl).trans ?_
  refine (r_ge (dk D70 4 rfl) rfl).trans (ite2 ?_ ?_)
  · refine (r_aln (dk D70 5 rfl) rfl).trans ?_
    refine (r_getR (dk D70 6 rfl) ow70 q8_34 ob_4 rfl).trans ?_
    refine (r_iln (dk D70 7 rfl) rfl).trans ?_
    refine (r_ald (dk D70 8 rfl) ar_9 (by decide) rfA9).trans (ck3 fun g1 => ?_)
    refine (r_getI (dk D70 9 rfl) ow70 q8_115 (obC (hp (Int32.toNatClampNeg l2)))).trans ?_
    refine (r_aln (dk D70 10 rfl) rfl).trans ?_
    refine (r_getR (dk D70 11 rfl) ow70 q8_34 ob_4 rfl).trans ?_
    refine (r_iln (dk D70 12 rfl) rfl).trans ?_
    refine (r_ald (dk D70 13 rfl) ar_9 (by decide) rfA9).trans (ck3 fun g2 => ?_)
    refine (r_getI (dk D70 14 rfl) ow70 q8_115 (obC (hp (Int32.toNatClampNeg l1)))).trans ?_
    refine (r_ne (dk D70 15 rfl) rfl).trans (ite2 ?_ ?_)
    · refine (r_ic (dk D70 16 rfl) ci0).trans ?_
      exact r_rez (dk D70 17 rfl) rt70 (by decide)
    · refine (r_inc (L' := [.ref 4, .int l1, .int (l2 + 1)]) (dk D70 18 rfl) rfl rfl ci1 (Nat.le_of_ble_eq_true rfl) rfl).trans ?_
      refine (r_goto (L' := [.ref 4, .int l1, .int (l2 + 1)]) (dk D70 19 rfl) rfl nd70_2 rfl).trans ?_
      exact rfl
  · refine (r_ic (dk D70 20 rfl) ci1).trans ?_
    exact r_rez (dk D70 21 rfl) rt70 (by decide)
set_option maxRecDepth 20000 in
theorem D71 : dOK 71 [(0, .iload_n 2, 1), (1, .tableswitch 70 0 6 #[43, 50, 57, 70, 70, 70, 64], 43), (44, .aload_n 0, 1), (45, .getfield 15, 3), (48, .iload_n 1, 1), (49, .iaload, 1), (50, .ireturn, 1), (51, .aload_n 0, 1), (52, .getfield 19, 3), (55, .iload_n 1, 1), (56, .iaload, 1), (57, .ireturn, 1), (58, .aload_n 0, 1), (59, .getfield 22, 3), (62, .iload_n 1, 1), (63, .iaload, 1), (64, .ireturn, 1), (65, .aload_n 0, 1), (66, .iload_n 1, 1), (67, .invokevirtual 122, 3), (70, .ireturn, 1), (71, .aload_n 0, 1), (72, .getfield 27, 3), (75, .iload_n 1, 1), (76, .aaload, 1), (77, .iload_n 2, 1), (78, .iconst 3, 1), (79, .isub, 1), (80, .invokevirtual 126, 3), (83, .l2i, 1), (84, .ireturn, 1)] = true := by decide +kernel
theorem E71_0 {d sl : Nat} {p : Nat → Nat} {I : Nat → Nat → Int32} {J : Nat → Nat → Int64} (a1 : Int32) (a2 : Int32)  : den (d + 1) 71 [.ref 4, .int a1, .int a2] (S sl p I J) = (if a2 = 0 then ck (ixb 6 a1) (some (some (.int (I 5 (Int32.toNatClampNeg a1))), (S sl p I J))) else (if a2 = 1 then ck (ixb 6 a1) (some (some (.int (I 6 (Int32.toNatClampNeg a1))), (S sl p I J))) else (if a2 = 2 then ck (ixb 6 a1) (some (some (.int (I 7 (Int32.toNatClampNeg a1))), (S sl p I J))) else (if a2 = 3 then ck (ixb 6 a1) (evK (d + 1) 71 83 [.ref 4, .int a1, .int a2] [] (den d 3 [.ref (100 + (Int32.toNatClampNeg a1)), .int (a2 - 3)] (S sl p I J))) else (if a2 = 4 then ck (ixb 6 a1) (evK (d + 1) 71 83 [.ref 4, .int a1, .int a2] [] (den d 3 [.ref (100 + (Int32.toNatClampNeg a1)), .int (a2 - 3)] (S sl p I J))) else (if a2 = 5 then ck (ixb 6 a1) (evK (d + 1) 71 83 [.ref 4, .int a1, .int a2] [] (den d 3 [.ref (100 + (Int32.toNatClampNeg a1)), .int (a2 - 3)] (S sl p I J))) else (if a2 = 6 then evK (d + 1) 71 70 [.ref 4, .int a1, .int a2] [] (den d 72 [.ref 4, .int a1] (S sl p I J)) else ck (ixb 6 a1) (evK (d + 1) 71 83 [.ref 4, .int a1, .int a2] [] (den d 3 [.ref (100 + (Int32.toNatClampNeg a1)), .int (a2 - 3)] (S sl p I J)))))))))) := by
  refine (show den (d + 1) 71 [.ref 4, .int a1, .int a2] (S sl p I J) = ev (d + 1) 71 0 [.ref 4, .int a1, .int a2] [] (S sl p I J) from rfl).trans ?_
  refine (r_iln (dk D71 0 rfl) rfl).trans ?_
  by_cases hs0 : a2 = 0
  · rw [if_pos hs0]
    refine (r_sw (t := 44) (dk D71 1 rfl) (by rw [hs0]; rfl)).trans ?_
    refine (r_aln (dk D71 2 rfl) rfl).trans ?_
    refine (r_getR (dk D71 3 rfl) ow71 q8_15 ob_4 rfl).trans ?_
    refine (r_iln (dk D71 4 rfl) rfl).trans ?_
    refine (r_ild (dk D71 5 rfl) ar_5).trans (ck3 fun g1 => ?_)
    exact r_ret (dk D71 6 rfl) rt71
  rw [if_neg hs0]
  by_cases hs1 : a2 = 1
  · rw [if_pos hs1]
    refine (r_sw (t := 51) (dk D71 1 rfl) (by rw [hs1]; rfl)).trans ?_
    refine (r_aln (dk D71 7 rfl) rfl).trans ?_
    refine (r_getR (dk D71 8 rfl) ow71 q8_19 ob_4 rfl).trans ?_
    refine (r_iln (dk D71 9 rfl) rfl).trans ?_
    refine (r_ild (dk D71 10 rfl) ar_6).trans (ck3 fun g2 => ?_)
    exact r_ret (dk D71 11 rfl) rt71
  rw [if_neg hs1]
  by_cases hs2 : a2 = 2
  · rw [if_pos hs2]
    refine (r_sw (t := 58) (dk D71 1 rfl) (by rw [hs2]; rfl)).trans ?_
    refine (r_aln (dk D71 12 rfl) rfl).trans ?_
    refine (r_getR (dk D71 13 rfl) ow71 q8_22 ob_4 rfl).trans ?_
    refine (r_iln (dk D71 14 rfl) rfl).trans ?_
    refine (r_ild (dk D71 15 rfl) ar_7).trans (ck3 fun g3 => ?_)
    exact r_ret (dk D71 16 rfl) rt71
  rw [if_neg hs2]
  by_cases hs3 : a2 = 3
  · rw [if_pos hs3]
    refine (r_sw (t := 71) (dk D71 1 rfl) (by rw [hs3]; rfl)).trans ?_
    refine (r_aln (dk D71 21 rfl) rfl).trans ?_
    refine (r_getR (dk D71 22 rfl) ow71 q8_27 ob_4 rfl).trans ?_
    refine (r_iln (dk D71 23 rfl) rfl).trans ?_
    refine (r_ald (dk D71 24 rfl) ar_8 (by decide) rfA8).trans (ck3 fun g4 => ?_)
    refine (r_iln (dk D71 25 rfl) rfl).trans ?_
    refine (r_ic (dk D71 26 rfl) ci3).trans ?_
    refine (r_isub (dk D71 27 rfl)).trans ?_
    exact r_cv (dk D71 28 rfl) ow71 c8_126 mf3 (Nat.le_of_ble_eq_true rfl) rfl rfl (Nat.le_of_ble_eq_true rfl) (Nat.le_of_ble_eq_true rfl) (ob100 (ixb_lt g4))
  rw [if_neg hs3]
  by_cases hs4 : a2 = 4
  · rw [if_pos hs4]
    refine (r_sw (t := 71) (dk D71 1 rfl) (by rw [hs4]; rfl)).trans ?_
    refine (r_aln (dk D71 21 rfl) rfl).trans ?_
    refine (r_getR (dk D71 22 rfl) ow71 q8_27 ob_4 rfl).trans ?_
    refine (r_iln (dk D71 23 rfl) rfl).trans ?_
    refine (r_ald (dk D71 24 rfl) ar_8 (by decide) rfA8).trans (ck3 fun g5 => ?_)
    refine (r_iln (dk D71 25 rfl) rfl).trans ?_
    refine (r_ic (dk D71 26 rfl) ci3).trans ?_
    refine (r_isub (dk D71 27 rfl)).trans ?_
    exact r_cv (dk D71 28 rfl) ow71 c8_126 mf3 (Nat.le_of_ble_eq_true rfl) rfl rfl (Nat.le_of_ble_eq_true rfl) (Nat.le_of_ble_eq_true rfl) (ob100 (ixb_lt g5))
  rw [if_neg hs4]
  by_cases hs5 : a2 = 5
  · rw [if_pos hs5]
    refine (r_sw (t := 71) (dk D71 1 rfl) (by rw [hs5]; rfl)).trans ?_
    refine (r_aln (dk D71 21 rfl) rfl).trans ?_
    refine (r_getR (dk D71 22 rfl) ow71 q8_27 ob_4 rfl).trans ?_
    refine (r_iln (dk D71 23 rfl) rfl).trans ?_
    refine (r_ald (dk D71 24 rfl) ar_8 (by decide) rfA8).trans (ck3 fun g6 => ?_)
    refine (r_iln (dk D71 25 rfl) rfl).trans ?_
    refine (r_ic (dk D71 26 rfl) ci3).trans ?_
    refine (r_isub (dk D71 27 rfl)).trans ?_
    exact r_cv (dk D71 28 rfl) ow71 c8_126 mf3 (Nat.le_of_ble_eq_true rfl) rfl rfl (Nat.le_of_ble_eq_true rfl) (Nat.le_of_ble_eq_true rfl) (ob100 (ixb_lt g6))
  rw [if_neg hs5]
  by_cases hs6 : a2 = 6
  · rw [if_pos hs6]
    refine (r_sw (t := 65) (dk D71 1 rfl) (by rw [hs6]; rfl)).trans ?_
    refine (r_aln (dk D71 17 rfl) rfl).trans ?_
    refine (r_iln (dk D71 18 rfl) rfl).trans ?_
    exact r_cv (dk D71 19 rfl) ow71 c8_122 mf72 (Nat.le_of_ble_eq_true rfl) rfl rfl (Nat.le_of_ble_eq_true rfl) (Nat.le_of_ble_eq_true rfl) ob_4
  rw [if_neg hs6]
  refine (r_swd (t := 71) (dk D71 1 rfl) (swd_7 hs0 hs1 hs2 hs3 hs4 hs5 hs6) rfl).trans ?_
  refine (r_aln (dk D71 21 rfl) rfl).trans ?_
  refine (r_getR (dk D71 22 rfl) ow71 q8_27 ob_4 rfl).trans ?_
  refine (r_iln (dk D71 23 rfl) rfl).trans ?_
  refine (r_ald (dk D71 24 rfl) ar_8 (by decide) rfA8).trans (ck3 fun g7 => ?_)
  refine (r_iln (dk D71 25 rfl) rfl).trans ?_
  refine (r_ic (dk D71 26 rfl) ci3).trans ?_
  refine (r_isub (dk D71 27 rfl)).trans ?_
  exact r_cv (dk D71 28 rfl) ow71 c8_126 mf3 (Nat.le_of_ble_eq_true rfl) rfl rfl (Nat.le_of_ble_eq_true rfl) (Nat.le_of_ble_eq_true rfl) (ob100 (ixb_lt g7))
theorem E71_70 {d sl : Nat} {p : Nat → Nat} {I : Nat → Nat → Int32} {J : Nat → Nat → Int64} (l1 : Int32) (l2 : Int32) (s0 : Int32)  : ev d 71 70 [.ref 4, .int l1, .int l2] [.int s0] (S sl p I J) = some (some (.int s0), (S sl p I J)) := by
  exact r_ret (dk D71 20 rfl) rt71
theorem E71_83 {d sl : Nat} {p : Nat → Nat} {I : Nat → Nat → Int32} {J : Nat → Nat → Int64} (l1 : Int32) (l2 : Int32) (s0 : Int64)  : ev d 71 83 [.ref 4, .int l1, .int l2] [.long s0] (S sl p I J) = some (some (.int (Int64.toInt32 s0)), (S sl p I J)) := by
  refine (r_l2i (dk D71 29 rfl)).trans ?_
  exact r_ret (dk D71 30 rfl) rt71
set_option maxRecDepth 20000 in
theorem D72 : dOK 72 [(0, .iconst 0, 1), (1, .istore_n 2, 1), (2, .iconst 0, 1), (3, .istore_n 3, 1), (4, .iload_n 3, 1), (5, .aload_n 0, 1), (6, .getfield 51, 3), (9, .if_icmp .ge 25, 3), (12, .aload_n 0, 1), (13, .getfield 34, 3), (16, .iload_n 3, 1), (17, .aaload, 1), (18, .getfield 60, 3), (21, .iload_n 1, 1), (22, .if_icmp .ne 6, 3), (25, .iinc 2 1, 3), (28, .iinc 3 1, 3), (31, .goto (-27), 3), (34, .iload_n 2, 1), (35, .ireturn, 1)] = true := by decide +kernel
theorem E72_0 {d sl : Nat} {p : Nat → Nat} {I : Nat → Nat → Int32} {J : Nat → Nat → Int64} (a1 : Int32)  : den d 72 [.ref 4, .int a1] (S sl p I J) = ev d 72 4 [.ref 4, .int a1, .int 0, .int 0] [] (S sl p I J) := by
  refine (show den d 72 [.ref 4, .int a1] (S sl p I J) = ev d 72 0 [.ref 4, .int a1, .retAddr 0, .retAddr 0] [] (S sl p I J) from rfl).trans ?_
  refine (r_ic (dk D72 0 rfl) ci0).trans ?_
  refine (r_isn (L' := [.ref 4, .int a1, .int 0, .retAddr 0]) (dk D72 1 rfl) (Nat.le_of_ble_eq_true rfl) rfl).trans ?_
  refine (r_ic (dk D72 2 rfl) ci0).trans ?_
  refine (r_isn (L' := [.ref 4, .int a1, .int 0, .int 0]) (dk D72 3 rfl) (Nat.le_of_ble_eq_true rfl) rfl).trans ?_
  exact rfl
theorem E72_4 {d sl : Nat} {p : Nat → Nat} {I : Nat → Nat → Int32} {J : Nat → Nat → Int64} (l1 : Int32) (l2 : Int32) (l3 : Int32) (hp : ∀ k, p k < 60)  : ev d 72 4 [.ref 4, .int l1, .int l2, .int l3] [] (S sl p I J) = (if l3 < (I 4 8) then ck (ixb 60 l3) ((if (I (200 + p (Int32.toNatClampNeg l3)) 2) = l1 then ev d 72 4 [.ref 4, .int l1, .int (l2 + 1), .int (l3 + 1)] [] (S sl p I J) else ev d 72 4 [.ref 4, .int l1, .int l2, .int (l3 + 1)] [] (S sl p I J))) else some (some (.int l2), (S sl p I J))) := by
  refine (r_iln (dk D72 4 rfl) rfl).trans ?_
  refine (r_aln (dk D72 5 rfl) rfl).trans ?_
  refine (r_getI (dk D72 6 rfl) ow72 q8_51 ob_4).trans ?_
  refine (r_ge (dk D72 7 rfl) rfl).trans (ite2 ?_ ?_)
  · refine (r_aln (dk D72 8 rfl) rfl).trans ?_
    refine (r_getR (dk D72 9 rfl) ow72 q8_34 ob_4 rfl).trans ?_
    refine (r_iln (dk D72 10 rfl) rfl).trans ?_
    refine (r_ald (dk D72 11 rfl) ar_9 (by decide) rfA9).trans (ck3 fun g1 => ?_)
    refine (r_getI (dk D72 12 rfl) ow72 q8_60 (obC (hp (Int32.toNatClampNeg l3)))).trans ?_
    refine (r_iln (dk D72 13 rfl) rfl).trans ?_
    refine (r_ne (dk D72 14 rfl) rfl).trans (ite2 ?_ ?_)
    · refine (r_inc (L' := [.ref 4, .int l1, .int (l2 + 1), .int l3]) (dk D72 15 rfl) rfl rfl ci1 (Nat.le_of_ble_eq_true rfl) rfl).trans ?_
      refine (r_inc (L' := [.ref 4, .int l1, .int (l2 + 1), .int (l3 + 1)]) (dk D72 16 rfl) rfl rfl ci1 (Nat.le_of_ble_eq_true rfl) rfl).trans ?_
      refine (r_goto (L' := [.ref 4, .int l1, .int (l2 + 1), .int (l3 + 1)]) (dk D72 17 rfl) rfl nd72_4 rfl).trans ?_
      exact rfl
    · refine (r_inc (L' := [.ref 4, .int l1, .int l2, .int (l3 + 1)]) (dk D72 16 rfl) rfl rfl ci1 (Nat.le_of_ble_eq_true rfl) rfl).trans ?_
      refine (r_goto (L' := [.ref 4, .int l1, .int l2, .int (l3 + 1)]) (dk D72 17 rfl) rfl nd72_4 rfl).trans ?_
      exact rfl
  · refine (r_iln (dk D72 18 rfl) rfl).trans ?_
    exact r_ret (dk D72 19 rfl) rt72
set_option maxRecDepth 20000 in
theorem D73 : dOK 73 [(0, .lconst 0, 1), (1, .lstore_n 1, 1), (2, .iconst 0, 1), (3, .istore_n 3, 1), (4, .iload_n 3, 1), (5, .aload_n 0, 1), (6, .getfield 51, 3), (9, .if_icmp .ge 22, 3), (12, .lload_n 1, 1), (13, .aload_n 0, 1), (14, .getfield 34, 3), (17, .iload_n 3, 1), (18, .aaload, 1), (19, .getfield 81, 3), (22, .i2l, 1), (23, .ladd, 1), (24, .lstore_n 1, 1), (25, .iinc 3 1, 3), (28, .goto (-24), 3), (31, .lload_n 1, 1), (32, .lreturn, 1)] = true := by decide +kernel
theorem E73_0 {d sl : Nat} {p : Nat → Nat} {I : Nat → Nat → Int32} {J : Nat → Nat → Int64}   : den d 73 [.ref 4] (S sl p I J) = ev d 73 4 [.ref 4, .long 0, .retAddr 0, .int 0] [] (S sl p I J) := by
  refine (show den d 73 [.ref 4] (S sl p I J) = ev d 73 0 [.ref 4, .retAddr 0, .retAddr 0, .retAddr 0] [] (S sl p I J) from rfl).trans ?_
  refine (r_lc (dk D73 0 rfl) cl0).trans ?_
  refine (r_lsn (L' := [.ref 4, .long 0, .retAddr 0, .retAddr 0]) (dk D73 1 rfl) (Nat.le_of_ble_eq_true rfl) rfl).trans ?_
  refine (r_ic (dk D73 2 rfl) ci0).trans ?_
  refine (r_isn (L' := [.ref 4, .long 0, .retAddr 0, .int 0]) (dk D73 3 rfl) (Nat.le_of_ble_eq_true rfl) rfl).trans ?_
  exact rfl
theorem E73_4 {d sl : Nat} {p : Nat → Nat} {I : Nat → Nat → Int32} {J : Nat → Nat → Int64} (l1 : Int64) (l3 : Int32) (hp : ∀ k, p k < 60)  : ev d 73 4 [.ref 4, .long l1, .retAddr 0, .int l3] [] (S sl p I J) = (if l3 < (I 4 8) then ck (ixb 60 l3) (ev d 73 4 [.ref 4, .long (l1 + (Int32.toInt64 (I (200 + p (Int32.toNatClampNeg l3)) 8))), .retAddr 0, .int (l3 + 1)] [] (S sl p I J)) else some (some (.long l1), (S sl p I J))) := by
  refine (r_iln (dk D73 4 rfl) rfl).trans ?_
  refine (r_aln (dk D73 5 rfl) rfl).trans ?_
  refine (r_getI (dk D73 6 rfl) ow73 q8_51 ob_4).trans ?_
  refine (r_ge (dk D73 7 rfl) rfl).trans (ite2 ?_ ?_)
  · refine (r_lln (dk D73 8 rfl) rfl).trans ?_
    refine (r_aln (dk D73 9 rfl) rfl).trans ?_
    refine (r_getR (dk D73 10 rfl) ow73 q8_34 ob_4 rfl).trans ?_
    refine (r_iln (dk D73 11 rfl) rfl).trans ?_
    refine (r_ald (dk D73 12 rfl) ar_9 (by decide) rfA9).trans (ck3 fun g1 => ?_)
    refine (r_getI (dk D73 13 rfl) ow73 q8_81 (obC (hp (Int32.toNatClampNeg l3)))).trans ?_
    refine (r_i2l (dk D73 14 rfl)).trans ?_
    refine (r_ladd (dk D73 15 rfl)).trans ?_
    refine (r_lsn (L' := [.ref 4, .long (l1 + (Int32.toInt64 (I (200 + p (Int32.toNatClampNeg l3)) 8))), .retAddr 0, .int l3]) (dk D73 16 rfl) (Nat.le_of_ble_eq_true rfl) rfl).trans ?_
    refine (r_inc (L' := [.ref 4, .long (l1 + (Int32.toInt64 (I (200 + p (Int32.toNatClampNeg l3)) 8))), .retAddr 0, .int (l3 + 1)]) (dk D73 17 rfl) rfl rfl ci1 (Nat.le_of_ble_eq_true rfl) rfl).trans ?_
    refine (r_goto (L' := [.ref 4, .long (l1 + (Int32.toInt64 (I (200 + p (Int32.toNatClampNeg l3)) 8))), .retAddr 0, .int (l3 + 1)]) (dk D73 18 rfl) rfl nd73_4 rfl).trans ?_
    exact rfl
  · refine (r_lln (dk D73 19 rfl) rfl).trans ?_
    exact r_rel (dk D73 20 rfl) rt73
set_option maxRecDepth 20000 in
theorem D74 : dOK 74 [(0, .iconst 0, 1), (1, .istore_n 3, 1), (2, .iconst 0, 1), (3, .istore 4, 2), (5, .iload 4, 2), (7, .aload_n 0, 1), (8, .getfield 51, 3), (11, .if_icmp .ge 44, 3), (14, .aload_n 0, 1), (15, .getfield 9, 3), (18, .aload_n 0, 1), (19, .getfield 34, 3), (22, .iload 4, 2), (24, .aaload, 1), (25, .getfield 70, 3), (28, .aload_n 1, 1), (29, .iload_n 2, 1), (30, .invokevirtual 130, 3), (33, .ifCond .eq 16, 3), (36, .iload_n 3, 1), (37, .aload_n 0, 1), (38, .getfield 34, 3), (41, .iload 4, 2), (43, .aaload, 1), (44, .getfield 81, 3), (47, .iadd, 1), (48, .istore_n 3, 1), (49, .iinc 4 1, 3), (52, .goto (-47), 3), (55, .iload_n 3, 1), (56, .ireturn, 1)] = true := by decide +kernel
theorem E74_0 {d sl : Nat} {p : Nat → Nat} {I : Nat → Nat → Int32} {J : Nat → Nat → Int64} {a1 : Nat} (a2 : Int32) (h1 : ob a1 0) : den d 74 [.ref 4, .ref a1, .int a2] (S sl p I J) = ev d 74 5 [.ref 4, .ref a1, .int a2, .int 0, .int 0] [] (S sl p I J) := by
  refine (show den d 74 [.ref 4, .ref a1, .int a2] (S sl p I J) = ev d 74 0 [.ref 4, .ref a1, .int a2, .retAddr 0, .retAddr 0] [] (S sl p I J) from rfl).trans ?_
  refine (r_ic (dk D74 0 rfl) ci0).trans ?_
  refine (r_isn (L' := [.ref 4, .ref a1, .int a2, .int 0, .retAddr 0]) (dk D74 1 rfl) (Nat.le_of_ble_eq_true rfl) rfl).trans ?_
  refine (r_ic (dk D74 2 rfl) ci0).trans ?_
  refine (r_is (L' := [.ref 4, .ref a1, .int a2, .int 0, .int 0]) (dk D74 3 rfl) (Nat.le_of_ble_eq_true rfl) rfl).trans ?_
  exact rfl
theorem E74_5 {d sl : Nat} {p : Nat → Nat} {I : Nat → Nat → Int32} {J : Nat → Nat → Int64} {l1 : Nat} (l2 : Int32) (l3 : Int32) (l4 : Int32) (hp : ∀ k, p k < 60) (hl1 : ob l1 0) : ev (d + 1) 74 5 [.ref 4, .ref l1, .int l2, .int l3, .int l4] [] (S sl p I J) = (if l4 < (I 4 8) then ck (ixb 60 l4) (evK (d + 1) 74 33 [.ref 4, .ref l1, .int l2, .int l3, .int l4] [] (den d 30 [.ref 2, .ref (300 + p (Int32.toNatClampNeg l4)), .ref l1, .int l2] (S sl p I J))) else some (some (.int l3), (S sl p I J))) := by
  refine (r_il (dk D74 4 rfl) rfl).trans ?_
  refine (r_aln (dk D74 5 rfl) rfl).trans ?_
  refine (r_getI (dk D74 6 rfl) ow74 q8_51 ob_4).trans ?_
  refine (r_ge (dk D74 7 rfl) rfl).trans (ite2 ?_ ?_)
  · refine (r_aln (dk D74 8 rfl) rfl).trans ?_
    refine (r_getR (dk D74 9 rfl) ow74 q8_9 ob_4 rfl).trans ?_
    refine (r_aln (dk D74 10 rfl) rfl).trans ?_
    refine (r_getR (dk D74 11 rfl) ow74 q8_34 ob_4 rfl).trans ?_
    refine (r_il (dk D74 12 rfl) rfl).trans ?_
    refine (r_ald (dk D74 13 rfl) ar_9 (by decide) rfA9).trans (ck3 fun g1 => ?_)
    refine (r_getR (dk D74 14 rfl) ow74 q8_70 (obC (hp (Int32.toNatClampNeg l4))) (rfC (hp (Int32.toNatClampNeg l4)))).trans ?_
    refine (r_aln (dk D74 15 rfl) rfl).trans ?_
    refine (r_iln (dk D74 16 rfl) rfl).trans ?_
    exact r_cv (dk D74 17 rfl) ow74 c8_130 mf30 (Nat.le_of_ble_eq_true rfl) rfl rfl (Nat.le_of_ble_eq_true rfl) (Nat.le_of_ble_eq_true rfl) ob_2
  · refine (r_iln (dk D74 29 rfl) rfl).trans ?_
    exact r_ret (dk D74 30 rfl) rt74
theorem E74_33 {d sl : Nat} {p : Nat → Nat} {I : Nat → Nat → Int32} {J : Nat → Nat → Int64} {l1 : Nat} (l2 : Int32) (l3 : Int32) (l4 : Int32) (s0 : Int32) (hp : ∀ k, p k < 60) (hl1 : ob l1 0) : ev d 74 33 [.ref 4, .ref l1, .int l2, .int l3, .int l4] [.int s0] (S sl p I J) = (if s0 = 0 then ev d 74 5 [.ref 4, .ref l1, .int l2, .int l3, .int (l4 + 1)] [] (S sl p I J) else ck (ixb 60 l4) (ev d 74 5 [.ref 4, .ref l1, .int l2, .int (l3 + (I (200 + p (Int32.toNatClampNeg l4)) 8)), .int (l4 + 1)] [] (S sl p I J))) := by
  refine (r_eq0 (dk D74 18 rfl) rfl).trans (ite2 ?_ ?_)
  · refine (r_inc (L' := [.ref 4, .ref l1, .int l2, .int l3, .int (l4 + 1)]) (dk D74 27 rfl) rfl rfl ci1 (Nat.le_of_ble_eq_true rfl) rfl).trans ?_
    refine (r_goto (L' := [.ref 4, .ref l1, .int l2, .int l3, .int (l4 + 1)]) (dk D74 28 rfl) rfl nd74_5 rfl).trans ?_
    exact rfl
  · refine (r_iln (dk D74 19 rfl) rfl).trans ?_
    refine (r_aln (dk D74 20 rfl) rfl).trans ?_
    refine (r_getR (dk D74 21 rfl) ow74 q8_34 ob_4 rfl).trans ?_
    refine (r_il (dk D74 22 rfl) rfl).trans ?_
    refine (r_ald (dk D74 23 rfl) ar_9 (by decide) rfA9).trans (ck3 fun g1 => ?_)
    refine (r_getI (dk D74 24 rfl) ow74 q8_81 (obC (hp (Int32.toNatClampNeg l4)))).trans ?_
    refine (r_iadd (dk D74 25 rfl)).trans ?_
    refine (r_isn (L' := [.ref 4, .ref l1, .int l2, .int (l3 + (I (200 + p (Int32.toNatClampNeg l4)) 8)), .int l4]) (dk D74 26 rfl) (Nat.le_of_ble_eq_true rfl) rfl).trans ?_
    refine (r_inc (L' := [.ref 4, .ref l1, .int l2, .int (l3 + (I (200 + p (Int32.toNatClampNeg l4)) 8)), .int (l4 + 1)]) (dk D74 27 rfl) rfl rfl ci1 (Nat.le_of_ble_eq_true rfl) rfl).trans ?_
    refine (r_goto (L' := [.ref 4, .ref l1, .int l2, .int (l3 + (I (200 + p (Int32.toNatClampNeg l4)) 8)), .int (l4 + 1)]) (dk D74 28 rfl) rfl nd74_5 rfl).trans ?_
    exact rfl
set_option maxRecDepth 20000 in
theorem D75 : dOK 75 [(0, .iconst 0, 1), (1, .istore_n 3, 1), (2, .iconst 0, 1), (3, .istore 4, 2), (5, .iload 4, 2), (7, .aload_n 0, 1), (8, .getfield 51, 3), (11, .if_icmp .ge 71, 3), (14, .aload_n 0, 1), (15, .getfield 34, 3), (18, .iload 4, 2), (20, .aaload, 1), (21, .getfield 134, 3), (24, .bipush 90, 2), (26, .iadd, 1), (27, .sipush 180, 3), (30, .irem, 1), (31, .istore 5, 2), (33, .aload_n 0, 1), (34, .getfield 34, 3), (37, .iload 4, 2), (39, .aaload, 1), (40, .getfield 137, 3), (43, .ifCond .eq 33, 3), (46, .iload 5, 2), (48, .bipush 10, 2), (50, .idiv, 1), (51, .iload_n 1, 1), (52, .if_icmp .ne 24, 3), (55, .iload_n 3, 1), (56, .iload_n 2, 1), (57, .ifCond .eq 16, 3), (60, .aload_n 0, 1), (61, .getfield 34, 3), (64, .iload 4, 2), (66, .aaload, 1), (67, .getfield 81, 3), (70, .goto 4, 3), (73, .iconst 1, 1), (74, .iadd, 1), (75, .istore_n 3, 1), (76, .iinc 4 1, 3), (79, .goto (-74), 3), (82, .iload_n 3, 1), (83, .ireturn, 1)] = true := by decide +kernel
theorem E75_0 {d sl : Nat} {p : Nat → Nat} {I : Nat → Nat → Int32} {J : Nat → Nat → Int64} (a1 : Int32) (a2 : Int32)  : den d 75 [.ref 4, .int a1, .int a2] (S sl p I J) = ev d 75 5 [.ref 4, .int a1, .int a2, .int 0, .int 0, .retAddr 0] [] (S sl p I J) := by
  refine (show den d 75 [.ref 4, .int a1, .int a2] (S sl p I J) = ev d 75 0 [.ref 4, .int a1, .int a2, .retAddr 0, .retAddr 0, .retAddr 0] [] (S sl p I J) from rfl).trans ?_
  refine (r_ic (dk D75 0 rfl) ci0).trans ?_
  refine (r_isn (L' := [.ref 4, .int a1, .int a2, .int 0, .retAddr 0, .retAddr 0]) (dk D75 1 rfl) (Nat.le_of_ble_eq_true rfl) rfl).trans ?_
  refine (r_ic (dk D75 2 rfl) ci0).trans ?_
  refine (r_is (L' := [.ref 4, .int a1, .int a2, .int 0, .int 0, .retAddr 0]) (dk D75 3 rfl) (Nat.le_of_ble_eq_true rfl) rfl).trans ?_
  exact rfl
theorem E75_5 {d sl : Nat} {p : Nat → Nat} {I : Nat → Nat → Int32} {J : Nat → Nat → Int64} (l1 : Int32) (l2 : Int32) (l3 : Int32) (l4 : Int32) (hp : ∀ k, p k < 60)  : ev d 75 5 [.ref 4, .int l1, .int l2, .int l3, .int l4, .retAddr 0] [] (S sl p I J) = (if l4 < (I 4 8) then ck (ixb 60 l4) (ck (ixb 60 l4) ((if (I (200 + p (Int32.toNatClampNeg l4)) 4) = 0 then ev d 75 5 [.ref 4, .int l1, .int l2, .int l3, .int (l4 + 1), .retAddr 0] [] (S sl p I J) else (if ((((I (200 + p (Int32.toNatClampNeg l4)) 6) + 90) - ((I (200 + p (Int32.toNatClampNeg l4)) 6) + 90) / 180 * 180) / 10) = l1 then (if l2 = 0 then ev d 75 5 [.ref 4, .int l1, .int l2, .int (l3 + 1), .int (l4 + 1), .retAddr 0] [] (S sl p I J) else ck (ixb 60 l4) (ev d 75 5 [.ref 4, .int l1, .int l2, .int (l3 + (I (200 + p (Int32.toNatClampNeg l4)) 8)), .int (l4 + 1), .retAddr 0] [] (S sl p I J))) else ev d 75 5 [.ref 4, .int l1, .int l2, .int l3, .int (l4 + 1), .retAddr 0] [] (S sl p I J))))) else some (some (.int l3), (S sl p I J))) := by
  refine (r_il (dk D75 4 rfl) rfl).trans ?_
  refine (r_aln (dk D75 5 rfl) rfl).trans ?_
  refine (r_getI (dk D75 6 rfl) ow75 q8_51 ob_4).trans ?_
  refine (r_ge (dk D75 7 rfl) rfl).trans (ite2 ?_ ?_)
  · refine (r_aln (dk D75 8 rfl) rfl).trans ?_
    refine (r_getR (dk D75 9 rfl) ow75 q8_34 ob_4 rfl).trans ?_
    refine (r_il (dk D75 10 rfl) rfl).trans ?_
    refine (r_ald (dk D75 11 rfl) ar_9 (by decide) rfA9).trans (ck3 fun g1 => ?_)
    refine (r_getI (dk D75 12 rfl) ow75 q8_134 (obC (hp (Int32.toNatClampNeg l4)))).trans ?_
    refine (r_bp (dk D75 13 rfl) cb90).trans ?_
    refine (r_iadd (dk D75 14 rfl)).trans ?_
    refine (r_sp (dk D75 15 rfl) cs180).trans ?_
    refine (r_irem (dk D75 16 rfl) (by decide)).trans ?_
    refine (r_is (L' := [.ref 4, .int l1, .int l2, .int l3, .int l4, .int (((I (200 + p (Int32.toNatClampNeg l4)) 6) + 90) - ((I (200 + p (Int32.toNatClampNeg l4)) 6) + 90) / 180 * 180)]) (dk D75 17 rfl) (Nat.le_of_ble_eq_true rfl) rfl).trans ?_
    refine (r_aln (dk D75 18 rfl) rfl).trans ?_
    refine (r_getR (dk D75 19 rfl) ow75 q8_34 ob_4 rfl).trans ?_
    refine (r_il (dk D75 20 rfl) rfl).trans ?_
    refine (r_ald (dk D75 21 rfl) ar_9 (by decide) rfA9).trans (ck3 fun g2 => ?_)
    refine (r_getI (dk D75 22 rfl) ow75 q8_137 (obC (hp (Int32.toNatClampNeg l4)))).trans ?_
    refine (r_eq0 (dk D75 23 rfl) rfl).trans (ite2 ?_ ?_)
    · refine (r_inc (L' := [.ref 4, .int l1, .int l2, .int l3, .int (l4 + 1), .int (((I (200 + p (Int32.toNatClampNeg l4)) 6) + 90) - ((I (200 + p (Int32.toNatClampNeg l4)) 6) + 90) / 180 * 180)]) (dk D75 41 rfl) rfl rfl ci1 (Nat.le_of_ble_eq_true rfl) rfl).trans ?_
      refine (r_goto (L' := [.ref 4, .int l1, .int l2, .int l3, .int (l4 + 1), .retAddr 0]) (dk D75 42 rfl) rfl nd75_5 rfl).trans ?_
      exact rfl
    · refine (r_il (dk D75 24 rfl) rfl).trans ?_
      refine (r_bp (dk D75 25 rfl) cb10).trans ?_
      refine (r_idiv (dk D75 26 rfl) (by decide)).trans ?_
      refine (r_iln (dk D75 27 rfl) rfl).trans ?_
      refine (r_ne (dk D75 28 rfl) rfl).trans (ite2 ?_ ?_)
      · refine (r_iln (dk D75 29 rfl) rfl).trans ?_
        refine (r_iln (dk D75 30 rfl) rfl).trans ?_
        refine (r_eq0 (dk D75 31 rfl) rfl).trans (ite2 ?_ ?_)
        · refine (r_ic (dk D75 38 rfl) ci1).trans ?_
          refine (r_iadd (dk D75 39 rfl)).trans ?_
          refine (r_isn (L' := [.ref 4, .int l1, .int l2, .int (l3 + 1), .int l4, .int (((I (200 + p (Int32.toNatClampNeg l4)) 6) + 90) - ((I (200 + p (Int32.toNatClampNeg l4)) 6) + 90) / 180 * 180)]) (dk D75 40 rfl) (Nat.le_of_ble_eq_true rfl) rfl).trans ?_
          refine (r_inc (L' := [.ref 4, .int l1, .int l2, .int (l3 + 1), .int (l4 + 1), .int (((I (200 + p (Int32.toNatClampNeg l4)) 6) + 90) - ((I (200 + p (Int32.toNatClampNeg l4)) 6) + 90) / 180 * 180)]) (dk D75 41 rfl) rfl rfl ci1 (Nat.le_of_ble_eq_true rfl) rfl).trans ?_
          refine (r_goto (L' := [.ref 4, .int l1, .int l2, .int (l3 + 1), .int (l4 + 1), .retAddr 0]) (dk D75 42 rfl) rfl nd75_5 rfl).trans ?_
          exact rfl
        · refine (r_aln (dk D75 32 rfl) rfl).trans ?_
          refine (r_getR (dk D75 33 rfl) ow75 q8_34 ob_4 rfl).trans ?_
          refine (r_il (dk D75 34 rfl) rfl).trans ?_
          refine (r_ald (dk D75 35 rfl) ar_9 (by decide) rfA9).trans (ck3 fun g3 => ?_)
          refine (r_getI (dk D75 36 rfl) ow75 q8_81 (obC (hp (Int32.toNatClampNeg l4)))).trans ?_
          refine (r_goto (L' := [.ref 4, .int l1, .int l2, .int l3, .int l4, .int (((I (200 + p (Int32.toNatClampNeg l4)) 6) + 90) - ((I (200 + p (Int32.toNatClampNeg l4)) 6) + 90) / 180 * 180)]) (dk D75 37 rfl) rfl nd75_74 rfl).trans ?_
          refine (r_iadd (dk D75 39 rfl)).trans ?_
          refine (r_isn (L' := [.ref 4, .int l1, .int l2, .int (l3 + (I (200 + p (Int32.toNatClampNeg l4)) 8)), .int l4, .int (((I (200 + p (Int32.toNatClampNeg l4)) 6) + 90) - ((I (200 + p (Int32.toNatClampNeg l4)) 6) + 90) / 180 * 180)]) (dk D75 40 rfl) (Nat.le_of_ble_eq_true rfl) rfl).trans ?_
          refine (r_inc (L' := [.ref 4, .int l1, .int l2, .int (l3 + (I (200 + p (Int32.toNatClampNeg l4)) 8)), .int (l4 + 1), .int (((I (200 + p (Int32.toNatClampNeg l4)) 6) + 90) - ((I (200 + p (Int32.toNatClampNeg l4)) 6) + 90) / 180 * 180)]) (dk D75 41 rfl) rfl rfl ci1 (Nat.le_of_ble_eq_true rfl) rfl).trans ?_
          refine (r_goto (L' := [.ref 4, .int l1, .int l2, .int (l3 + (I (200 + p (Int32.toNatClampNeg l4)) 8)), .int (l4 + 1), .retAddr 0]) (dk D75 42 rfl) rfl nd75_5 rfl).trans ?_
          exact rfl
      · refine (r_inc (L' := [.ref 4, .int l1, .int l2, .int l3, .int (l4 + 1), .int (((I (200 + p (Int32.toNatClampNeg l4)) 6) + 90) - ((I (200 + p (Int32.toNatClampNeg l4)) 6) + 90) / 180 * 180)]) (dk D75 41 rfl) rfl rfl ci1 (Nat.le_of_ble_eq_true rfl) rfl).trans ?_
        refine (r_goto (L' := [.ref 4, .int l1, .int l2, .int l3, .int (l4 + 1), .retAddr 0]) (dk D75 42 rfl) rfl nd75_5 rfl).trans ?_
        exact rfl
  · refine (r_iln (dk D75 43 rfl) rfl).trans ?_
    exact r_ret (dk D75 44 rfl) rt75
set_option maxRecDepth 20000 in
theorem D76 : dOK 76 [(0, .iconst 0, 1), (1, .istore_n 3, 1), (2, .iconst 0, 1), (3, .istore 4, 2), (5, .iload 4, 2), (7, .aload_n 0, 1), (8, .getfield 48, 3), (11, .if_icmp .ge 38, 3), (14, .aload_n 0, 1), (15, .getfield 9, 3), (18, .aload_n 1, 1), (19, .aload_n 0, 1), (20, .getfield 27, 3), (23, .iload 4, 2), (25, .aaload, 1), (26, .bipush 90, 2), (28, .iload_n 2, 1), (29, .isub, 1), (30, .invokevirtual 130, 3), (33, .ifCond .ne 10, 3), (36, .iload_n 3, 1), (37, .iconst 1, 1), (38, .iload 4, 2), (40, .ishl, 1), (41, .ior, 1), (42, .istore_n 3, 1), (43, .iinc 4 1, 3), (46, .goto (-41), 3), (49, .iload_n 3, 1), (50, .ireturn, 1)] = true := by decide +kernel
theorem E76_0 {d sl : Nat} {p : Nat → Nat} {I : Nat → Nat → Int32} {J : Nat → Nat → Int64} {a1 : Nat} (a2 : Int32) (h1 : ob a1 0) : den d 76 [.ref 4, .ref a1, .int a2] (S sl p I J) = ev d 76 5 [.ref 4, .ref a1, .int a2, .int 0, .int 0] [] (S sl p I J) := by
  refine (show den d 76 [.ref 4, .ref a1, .int a2] (S sl p I J) = ev d 76 0 [.ref 4, .ref a1, .int a2, .retAddr 0, .retAddr 0] [] (S sl p I J) from rfl).trans ?_
  refine (r_ic (dk D76 0 rfl) ci0).trans ?_
  refine (r_isn (L' := [.ref 4, .ref a1, .int a2, .int 0, .retAddr 0]) (dk D76 1 rfl) (Nat.le_of_ble_eq_true rfl) rfl).trans ?_
  refine (r_ic (dk D76 2 rfl) ci0).trans ?_
  refine (r_is (L' := [.ref 4, .ref a1, .int a2, .int 0, .int 0]) (dk D76 3 rfl) (Nat.le_of_ble_eq_true rfl) rfl).trans ?_
  exact rfl
theorem E76_5 {d sl : Nat} {p : Nat → Nat} {I : Nat → Nat → Int32} {J : Nat → Nat → Int64} {l1 : Nat} (l2 : Int32) (l3 : Int32) (l4 : Int32) (hl1 : ob l1 0) : ev (d + 1) 76 5 [.ref 4, .ref l1, .int l2, .int l3, .int l4] [] (S sl p I J) = (if l4 < (I 4 7) then ck (ixb 6 l4) (evK (d + 1) 76 33 [.ref 4, .ref l1, .int l2, .int l3, .int l4] [] (den d 30 [.ref 2, .ref l1, .ref (100 + (Int32.toNatClampNeg l4)), .int (90 - l2)] (S sl p I J))) else some (some (.int l3), (S sl p I J))) := by
  refine (r_il (dk D76 4 rfl) rfl).trans ?_
  refine (r_aln (dk D76 5 rfl) rfl).trans ?_
  refine (r_getI (dk D76 6 rfl) ow76 q8_48 ob_4).trans ?_
  refine (r_ge (dk D76 7 rfl) rfl).trans (ite2 ?_ ?_)
  · refine (r_aln (dk D76 8 rfl) rfl).trans ?_
    refine (r_getR (dk D76 9 rfl) ow76 q8_9 ob_4 rfl).trans ?_
    refine (r_aln (dk D76 10 rfl) rfl).trans ?_
    refine (r_aln (dk D76 11 rfl) rfl).trans ?_
    refine (r_getR (dk D76 12 rfl) ow76 q8_27 ob_4 rfl).trans ?_
    refine (r_il (dk D76 13 rfl) rfl).trans ?_
    refine (r_ald (dk D76 14 rfl) ar_8 (by decide) rfA8).trans (ck3 fun g1 => ?_)
    refine (r_bp (dk D76 15 rfl) cb90).trans ?_
    refine (r_iln (dk D76 16 rfl) rfl).trans ?_
    refine (r_isub (dk D76 17 rfl)).trans ?_
    exact r_cv (dk D76 18 rfl) ow76 c8_130 mf30 (Nat.le_of_ble_eq_true rfl) rfl rfl (Nat.le_of_ble_eq_true rfl) (Nat.le_of_ble_eq_true rfl) ob_2
  · refine (r_iln (dk D76 28 rfl) rfl).trans ?_
    exact r_ret (dk D76 29 rfl) rt76
theorem E76_33 {d sl : Nat} {p : Nat → Nat} {I : Nat → Nat → Int32} {J : Nat → Nat → Int64} {l1 : Nat} (l2 : Int32) (l3 : Int32) (l4 : Int32) (s0 : Int32) (hl1 : ob l1 0) : ev d 76 33 [.ref 4, .ref l1, .int l2, .int l3, .int l4] [.int s0] (S sl p I J) = (if s0 = 0 then ev d 76 5 [.ref 4, .ref l1, .int l2, .int (l3 ||| (1 <<< (l4 &&& 31))), .int (l4 + 1)] [] (S sl p I J) else ev d 76 5 [.ref 4, .ref l1, .int l2, .int l3, .int (l4 + 1)] [] (S sl p I J)) := by
  refine (r_ne0 (dk D76 19 rfl) rfl).trans (ite2 ?_ ?_)
  · refine (r_iln (dk D76 20 rfl) rfl).trans ?_
    refine (r_ic (dk D76 21 rfl) ci1).trans ?_
    refine (r_il (dk D76 22 rfl) rfl).trans ?_
    refine (r_ishl (dk D76 23 rfl)).trans ?_
    refine (r_ior (dk D76 24 rfl)).trans ?_
    refine (r_isn (L' := [.ref 4, .ref l1, .int l2, .int (l3 ||| (1 <<< (l4 &&& 31))), .int l4]) (dk D76 25 rfl) (Nat.le_of_ble_eq_true rfl) rfl).trans ?_
    refine (r_inc (L' := [.ref 4, .ref l1, .int l2, .int (l3 ||| (1 <<< (l4 &&& 31))), .int (l4 + 1)]) (dk D76 26 rfl) rfl rfl ci1 (Nat.le_of_ble_eq_true rfl) rfl).trans ?_
    refine (r_goto (L' := [.ref 4, .ref l1, .int l2, .int (l3 ||| (1 <<< (l4 &&& 31))), .int (l4 + 1)]) (dk D76 27 rfl) rfl nd76_5 rfl).trans ?_
    exact rfl
  · refine (r_inc (L' := [.ref 4, .ref l1, .int l2, .int l3, .int (l4 + 1)]) (dk D76 26 rfl) rfl rfl ci1 (Nat.le_of_ble_eq_true rfl) rfl).trans ?_
    refine (r_goto (L' := [.ref 4, .ref l1, .int l2, .int l3, .int (l4 + 1)]) (dk D76 27 rfl) rfl nd76_5 rfl).trans ?_
    exact rfl
