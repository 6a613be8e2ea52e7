set_option maxRecDepth 20000 in
theorem D16 : dOK 16 [(0, .aload_n 0, 1), (1, .getfield 12, 3), (4, .lconst 0, 1), (5, .lconst 0, 1), (6, .lconst 0, 1), (7, .invokevirtual 18, 3), (10, .aload_n 0, 1), (11, .lconst 0, 1), (12, .putfield 22, 3), (15, .return_, 1)] = true := by decide +kernel
theorem E16_0 {d sl : Nat} {p : Nat → Nat} {I : Nat → Nat → Int32} {J : Nat → Nat → Int64} {a0 : Nat} {b0 : Nat} (hr0 : RF p a0 0 = some b0) (hb0 : ob b0 0) (h0 : ob a0 3) : den (d + 1) 16 [.ref a0] (S sl p I J) = evK (d + 1) 16 10 [.ref a0] [] (den d 1 [.ref b0, .long 0, .long 0, .long 0] (S sl p I J)) := by
  refine (show den (d + 1) 16 [.ref a0] (S sl p I J) = ev (d + 1) 16 0 [.ref a0] [] (S sl p I J) from rfl).trans ?_
  refine (r_aln (dk D16 0 rfl) rfl).trans ?_
  refine (r_getR (dk D16 1 rfl) ow16 q3_12 h0 hr0).trans ?_
  refine (r_lc (dk D16 2 rfl) cl0).trans ?_
  refine (r_lc (dk D16 3 rfl) cl0).trans ?_
  refine (r_lc (dk D16 4 rfl) cl0).trans ?_
  exact r_cv (dk D16 5 rfl) ow16 c3_18 mf1 (Nat.le_of_ble_eq_true rfl) rfl rfl (Nat.le_of_ble_eq_true rfl) (Nat.le_of_ble_eq_true rfl) hb0
theorem E16_10 {d sl : Nat} {p : Nat → Nat} {I : Nat → Nat → Int32} {J : Nat → Nat → Int64} {l0 : Nat} (hl0 : ob l0 3) : ev d 16 10 [.ref l0] [] (S sl p I J) = some (none, (S sl p I (up2 J l0 1 0))) := by
  refine (r_aln (dk D16 6 rfl) rfl).trans ?_
  refine (r_lc (dk D16 7 rfl) cl0).trans ?_
  refine (r_putJ (dk D16 8 rfl) ow16 w3_22 hl0).trans ?_
  exact r_rev (dk D16 9 rfl) rt16
set_option maxRecDepth 20000 in
theorem D17 : dOK 17 [(0, .aload_n 2, 1), (1, .aload_n 3, 1), (2, .invokevirtual 26, 3), (5, .lconst 0, 1), (6, .lcmp, 1), (7, .ifCond .ge 9, 3), (10, .iload_n 1, 1), (11, .ineg, 1), (12, .i2l, 1), (13, .goto 5, 3), (16, .iload_n 1, 1), (17, .i2l, 1), (18, .lstore 4, 2), (20, .aload_n 0, 1), (21, .getfield 12, 3), (24, .aload_n 0, 1), (25, .getfield 12, 3), (28, .getfield 30, 3), (31, .lload 4, 2), (33, .aload_n 2, 1), (34, .getfield 30, 3), (37, .lmul, 1), (38, .ladd, 1), (39, .aload_n 0, 1), (40, .getfield 12, 3), (43, .getfield 33, 3), (46, .lload 4, 2), (48, .aload_n 2, 1), (49, .getfield 33, 3), (52, .lmul, 1), (53, .ladd, 1), (54, .aload_n 0, 1), (55, .getfield 12, 3), (58, .getfield 36, 3), (61, .lload 4, 2), (63, .aload_n 2, 1), (64, .getfield 36, 3), (67, .lmul, 1), (68, .ladd, 1), (69, .invokevirtual 18, 3), (72, .aload_n 0, 1), (73, .dup, 1), (74, .getfield 22, 3), (77, .iload_n 1, 1), (78, .i2l, 1), (79, .ladd, 1), (80, .putfield 22, 3), (83, .return_, 1)] = true := by decide +kernel
theorem E17_0 {d sl : Nat} {p : Nat → Nat} {I : Nat → Nat → Int32} {J : Nat → Nat → Int64} {a0 : Nat} (a1 : Int32) {a2 : Nat} {a3 : Nat} (h0 : ob a0 3) (h2 : ob a2 0) (h3 : ob a3 0) : den (d + 1) 17 [.ref a0, .int a1, .ref a2, .ref a3] (S sl p I J) = evK (d + 1) 17 5 [.ref a0, .int a1, .ref a2, .ref a3, .retAddr 0, .retAddr 0] [] (den d 4 [.ref a2, .ref a3] (S sl p I J)) := by
  refine (show den (d + 1) 17 [.ref a0, .int a1, .ref a2, .ref a3] (S sl p I J) = ev (d + 1) 17 0 [.ref a0, .int a1, .ref a2, .ref a3, .retAddr 0, .retAddr 0] [] (S sl p I J) from rfl).trans ?_
  refine (r_aln (dk D17 0 rfl) rfl).trans ?_
  refine (r_aln (dk D17 1 rfl) rfl).trans ?_
  exact r_cv (dk D17 2 rfl) ow17 c3_26 mf4 (Nat.le_of_ble_eq_true rfl) rfl rfl (Nat.le_of_ble_eq_true rfl) (Nat.le_of_ble_eq_true rfl) h2
theorem E17_5 {d sl : Nat} {p : Nat → Nat} {I : Nat → Nat → Int32} {J : Nat → Nat → Int64} {l0 : Nat} (l1 : Int32) {l2 : Nat} {l3 : Nat} (s0 : Int64) (hl0 : ob l0 3) (hl2 : ob l2 0) (hl3 : ob l3 0) : ev d 17 5 [.ref l0, .int l1, .ref l2, .ref l3, .retAddr 0, .retAddr 0] [.long s0] (S sl p I J) = (if s0 < 0 then ev d 17 18 [.ref l0, .int l1, .ref l2, .ref l3, .retAddr 0, .retAddr 0] [.long (Int32.toInt64 (-l1))] (S sl p I J) else ev d 17 18 [.ref l0, .int l1, .ref l2, .ref l3, .retAddr 0, .retAddr 0] [.long (Int32.toInt64 l1)] (S sl p I J)) := by
  refine (r_lc (dk D17 3 rfl) cl0).trans ?_
  refine (r_jge (dk D17 4 rfl) (dk D17 5 rfl) rfl).trans (ite2 ?_ ?_)
  · refine (r_iln (dk D17 6 rfl) rfl).trans ?_
    refine (r_ineg (dk D17 7 rfl)).trans ?_
    refine (r_i2l (dk D17 8 rfl)).trans ?_
    refine (r_goto (L' := [.ref l0, .int l1, .ref l2, .ref l3, .retAddr 0, .retAddr 0]) (dk D17 9 rfl) rfl nd17_18 rfl).trans ?_
    exact rfl
  · refine (r_iln (dk D17 10 rfl) rfl).trans ?_
    refine (r_i2l (dk D17 11 rfl)).trans ?_
    exact rfl
theorem E17_18 {d sl : Nat} {p : Nat → Nat} {I : Nat → Nat → Int32} {J : Nat → Nat → Int64} {l0 : Nat} (l1 : Int32) {l2 : Nat} {l3 : Nat} (s0 : Int64) {b0 : Nat} (hr0 : RF p l0 0 = some b0) (hb0 : ob b0 0) (hl0 : ob l0 3) (hl2 : ob l2 0) (hl3 : ob l3 0) : ev (d + 1) 17 18 [.ref l0, .int l1, .ref l2, .ref l3, .retAddr 0, .retAddr 0] [.long s0] (S sl p I J) = evK (d + 1) 17 72 [.ref l0, .int l1, .ref l2, .ref l3, .long s0, .retAddr 0] [] (den d 1 [.ref b0, .long ((J b0 0) + (s0 * (J l2 0))), .long ((J b0 1) + (s0 * (J l2 1))), .long ((J b0 2) + (s0 * (J l2 2)))] (S sl p I J)) := by
  refine (r_ls (L' := [.ref l0, .int l1, .ref l2, .ref l3, .long s0, .retAddr 0]) (dk D17 12 rfl) (Nat.le_of_ble_eq_true rfl) rfl).trans ?_
  refine (r_aln (dk D17 13 rfl) rfl).trans ?_
  refine (r_getR (dk D17 14 rfl) ow17 q3_12 hl0 hr0).trans ?_
  refine (r_aln (dk D17 15 rfl) rfl).trans ?_
  refine (r_getR (dk D17 16 rfl) ow17 q3_12 hl0 hr0).trans ?_
  refine (r_getJ (dk D17 17 rfl) ow17 q3_30 hb0).trans ?_
  refine (r_ll (dk D17 18 rfl) rfl).trans ?_
  refine (r_aln (dk D17 19 rfl) rfl).trans ?_
  refine (r_getJ (dk D17 20 rfl) ow17 q3_30 hl2).trans ?_
  refine (r_lmul (dk D17 21 rfl)).trans ?_
  refine (r_ladd (dk D17 22 rfl)).trans ?_
  refine (r_aln (dk D17 23 rfl) rfl).trans ?_
  refine (r_getR (dk D17 24 rfl) ow17 q3_12 hl0 hr0).trans ?_
  refine (r_getJ (dk D17 25 rfl) ow17 q3_33 hb0).trans ?_
  refine (r_ll (dk D17 26 rfl) rfl).trans ?_
  refine (r_aln (dk D17 27 rfl) rfl).trans ?_
  refine (r_getJ (dk D17 28 rfl) ow17 q3_33 hl2).trans ?_
  refine (r_lmul (dk D17 29 rfl)).trans ?_
  refine (r_ladd (dk D17 30 rfl)).trans ?_
  refine (r_aln (dk D17 31 rfl) rfl).trans ?_
  refine (r_getR (dk D17 32 rfl) ow17 q3_12 hl0 hr0).trans ?_
  refine (r_getJ (dk D17 33 rfl) ow17 q3_36 hb0).trans ?_
  refine (r_ll (dk D17 34 rfl) rfl).trans ?_
  refine (r_aln (dk D17 35 rfl) rfl).trans ?_
  refine (r_getJ (dk D17 36 rfl) ow17 q3_36 hl2).trans ?_
  refine (r_lmul (dk D17 37 rfl)).trans ?_
  refine (r_ladd (dk D17 38 rfl)).trans ?_
  exact r_cv (dk D17 39 rfl) ow17 c3_18 mf1 (Nat.le_of_ble_eq_true rfl) rfl rfl (Nat.le_of_ble_eq_true rfl) (Nat.le_of_ble_eq_true rfl) hb0
theorem E17_72 {d sl : Nat} {p : Nat → Nat} {I : Nat → Nat → Int32} {J : Nat → Nat → Int64} {l0 : Nat} (l1 : Int32) {l2 : Nat} {l3 : Nat} (l4 : Int64) (hl0 : ob l0 3) (hl2 : ob l2 0) (hl3 : ob l3 0) : ev d 17 72 [.ref l0, .int l1, .ref l2, .ref l3, .long l4, .retAddr 0] [] (S sl p I J) = some (none, (S sl p I (up2 J l0 1 ((J l0 1) + (Int32.toInt64 l1))))) := by
  refine (r_aln (dk D17 40 rfl) rfl).trans ?_
  refine (r_dup (dk D17 41 rfl) rfl).trans ?_
  refine (r_getJ (dk D17 42 rfl) ow17 q3_22 hl0).trans ?_
  refine (r_iln (dk D17 43 rfl) rfl).trans ?_
  refine (r_i2l (dk D17 44 rfl)).trans ?_
  refine (r_ladd (dk D17 45 rfl)).trans ?_
  refine (r_putJ (dk D17 46 rfl) ow17 w3_22 hl0).trans ?_
  exact r_rev (dk D17 47 rfl) rt17
set_option maxRecDepth 20000 in
theorem D18 : dOK 18 [(0, .aload_n 0, 1), (1, .getfield 12, 3), (4, .invokevirtual 39, 3), (7, .invokestatic 43, 3), (10, .ldc2_w 47, 3), (13, .ldiv, 1), (14, .lreturn, 1)] = true := by decide +kernel
theorem E18_0 {d sl : Nat} {p : Nat → Nat} {I : Nat → Nat → Int32} {J : Nat → Nat → Int64} {a0 : Nat} {b0 : Nat} (hr0 : RF p a0 0 = some b0) (hb0 : ob b0 0) (h0 : ob a0 3) : den (d + 1) 18 [.ref a0] (S sl p I J) = evK (d + 1) 18 7 [.ref a0] [] (den d 5 [.ref b0] (S sl p I J)) := by
  refine (show den (d + 1) 18 [.ref a0] (S sl p I J) = ev (d + 1) 18 0 [.ref a0] [] (S sl p I J) from rfl).trans ?_
  refine (r_aln (dk D18 0 rfl) rfl).trans ?_
  refine (r_getR (dk D18 1 rfl) ow18 q3_12 h0 hr0).trans ?_
  exact r_cv (dk D18 2 rfl) ow18 c3_39 mf5 (Nat.le_of_ble_eq_true rfl) rfl rfl (Nat.le_of_ble_eq_true rfl) (Nat.le_of_ble_eq_true rfl) hb0
theorem E18_7 {d sl : Nat} {p : Nat → Nat} {I : Nat → Nat → Int32} {J : Nat → Nat → Int64} {l0 : Nat} (s0 : Int64) (hl0 : ob l0 3) : ev (d + 1) 18 7 [.ref l0] [.long s0] (S sl p I J) = evK (d + 1) 18 10 [.ref l0] [] (den d 171 [.long s0] (S sl p I J)) := by
  exact r_cs (dk D18 3 rfl) ow18 pn3_43 c3_43 mf171 (Nat.le_of_ble_eq_true rfl) rfl rfl (Nat.le_of_ble_eq_true rfl) (Nat.le_of_ble_eq_true rfl)
theorem E18_10 {d sl : Nat} {p : Nat → Nat} {I : Nat → Nat → Int32} {J : Nat → Nat → Int64} {l0 : Nat} (s0 : Int64) (hl0 : ob l0 3) : ev d 18 10 [.ref l0] [.long s0] (S sl p I J) = some (some (.long (s0 / 1000)), (S sl p I J)) := by
  refine (r_ld2 (dk D18 4 rfl) ow18 kk3_47).trans ?_
  refine (r_ldiv (dk D18 5 rfl) (by decide)).trans ?_
  exact r_rel (dk D18 6 rfl) rt18
set_option maxRecDepth 20000 in
theorem D19 : dOK 19 [(0, .aload_n 0, 1), (1, .getfield 22, 3), (4, .aload_n 0, 1), (5, .invokevirtual 49, 3), (8, .lsub, 1), (9, .lstore_n 1, 1), (10, .lload_n 1, 1), (11, .lconst 0, 1), (12, .lcmp, 1), (13, .ifCond .gt 6, 3), (16, .ldc 52, 2), (18, .ireturn, 1), (19, .ldc2_w 53, 3), (22, .ldc2_w 55, 3), (25, .aload_n 0, 1), (26, .getfield 22, 3), (29, .lmul, 1), (30, .lload_n 1, 1), (31, .invokestatic 57, 3), (34, .invokestatic 61, 3), (37, .l2i, 1), (38, .ireturn, 1)] = true := by decide +kernel
theorem E19_0 {d sl : Nat} {p : Nat → Nat} {I : Nat → Nat → Int32} {J : Nat → Nat → Int64} {a0 : Nat} (h0 : ob a0 3) : den (d + 1) 19 [.ref a0] (S sl p I J) = evK (d + 1) 19 8 [.ref a0, .retAddr 0, .retAddr 0] [.long (J a0 1)] (den d 18 [.ref a0] (S sl p I J)) := by
  refine (show den (d + 1) 19 [.ref a0] (S sl p I J) = ev (d + 1) 19 0 [.ref a0, .retAddr 0, .retAddr 0] [] (S sl p I J) from rfl).trans ?_
  refine (r_aln (dk D19 0 rfl) rfl).trans ?_
  refine (r_getJ (dk D19 1 rfl) ow19 q3_22 h0).trans ?_
  refine (r_aln (dk D19 2 rfl) rfl).trans ?_
  exact r_cv (dk D19 3 rfl) ow19 c3_49 mf18 (Nat.le_of_ble_eq_true rfl) rfl rfl (Nat.le_of_ble_eq_true rfl) (Nat.le_of_ble_eq_true rfl) h0
theorem E19_8 {d sl : Nat} {p : Nat → Nat} {I : Nat → Nat → Int32} {J : Nat → Nat → Int64} {l0 : Nat} (s0 : Int64) (s1 : Int64) (hl0 : ob l0 3) : ev (d + 1) 19 8 [.ref l0, .retAddr 0, .retAddr 0] [.long s0, .long s1] (S sl p I J) = (if (s1 - s0) ≤ 0 then some (some (.int 1000000), (S sl p I J)) else evK (d + 1) 19 34 [.ref l0, .long (s1 - s0), .retAddr 0] [.long 1000000] (den d 170 [.long (100 * (J l0 1)), .long (s1 - s0)] (S sl p I J))) := by
  refine (r_lsub (dk D19 4 rfl)).trans ?_
  refine (r_lsn (L' := [.ref l0, .long (s1 - s0), .retAddr 0]) (dk D19 5 rfl) (Nat.le_of_ble_eq_true rfl) rfl).trans ?_
  refine (r_lln (dk D19 6 rfl) rfl).trans ?_
  refine (r_lc (dk D19 7 rfl) cl0).trans ?_
  refine (r_jgt (dk D19 8 rfl) (dk D19 9 rfl) rfl).trans (ite2 ?_ ?_)
  · refine (r_ldc (dk D19 10 rfl) ow19 k3_52).trans ?_
    exact r_ret (dk D19 11 rfl) rt19
  · refine (r_ld2 (dk D19 12 rfl) ow19 kk3_53).trans ?_
    refine (r_ld2 (dk D19 13 rfl) ow19 kk3_55).trans ?_
    refine (r_aln (dk D19 14 rfl) rfl).trans ?_
    refine (r_getJ (dk D19 15 rfl) ow19 q3_22 hl0).trans ?_
    refine (r_lmul (dk D19 16 rfl)).trans ?_
    refine (r_lln (dk D19 17 rfl) rfl).trans ?_
    exact r_cs (dk D19 18 rfl) ow19 pn3_57 c3_57 mf170 (Nat.le_of_ble_eq_true rfl) rfl rfl (Nat.le_of_ble_eq_true rfl) (Nat.le_of_ble_eq_true rfl)
theorem E19_34 {d sl : Nat} {p : Nat → Nat} {I : Nat → Nat → Int32} {J : Nat → Nat → Int64} {l0 : Nat} (l1 : Int64) (s0 : Int64) (s1 : Int64) (hl0 : ob l0 3) : ev (d + 1) 19 34 [.ref l0, .long l1, .retAddr 0] [.long s0, .long s1] (S sl p I J) = some (some (.int (Int64.toInt32 (if s0 < s1 then s0 else s1))), (S sl p I J)) := by
  refine (r_prm (st' := [.long (if s0 < s1 then s0 else s1)]) (dk D19 19 rfl) ow19 p3_61 (Nat.le_of_ble_eq_true rfl) rfl).trans ?_
  refine (r_l2i (dk D19 20 rfl)).trans ?_
  exact r_ret (dk D19 21 rfl) rt19
set_option maxRecDepth 20000 in
theorem D20 : dOK 20 [(0, .aload_n 0, 1), (1, .getfield 12, 3), (4, .getfield 30, 3), (7, .aload_n 0, 1), (8, .getfield 22, 3), (11, .invokestatic 57, 3), (14, .lstore_n 2, 1), (15, .aload_n 0, 1), (16, .getfield 12, 3), (19, .getfield 33, 3), (22, .aload_n 0, 1), (23, .getfield 22, 3), (26, .invokestatic 57, 3), (29, .lstore 4, 2), (31, .aload_n 0, 1), (32, .getfield 12, 3), (35, .getfield 36, 3), (38, .aload_n 0, 1), (39, .getfield 22, 3), (42, .invokestatic 57, 3), (45, .lstore 6, 2), (47, .lload_n 2, 1), (48, .lconst 0, 1), (49, .lcmp, 1), (50, .ifCond .ne 17, 3), (53, .lload 4, 2), (55, .lconst 0, 1), (56, .lcmp, 1), (57, .ifCond .ne 10, 3), (60, .lload 6, 2), (62, .lconst 0, 1), (63, .lcmp, 1), (64, .ifCond .eq 12, 3), (67, .aload_n 1, 1), (68, .lload_n 2, 1), (69, .lload 4, 2), (71, .lload 6, 2), (73, .invokevirtual 18, 3), (76, .aload_n 1, 1), (77, .invokevirtual 66, 3), (80, .return_, 1)] = true := by decide +kernel
theorem E20_0 {d sl : Nat} {p : Nat → Nat} {I : Nat → Nat → Int32} {J : Nat → Nat → Int64} {a0 : Nat} {a1 : Nat} {b0 : Nat} (hr0 : RF p a0 0 = some b0) (hb0 : ob b0 0) (h0 : ob a0 3) (h1 : ob a1 0) : den (d + 1) 20 [.ref a0, .ref a1] (S sl p I J) = evK (d + 1) 20 14 [.ref a0, .ref a1, .retAddr 0, .retAddr 0, .retAddr 0, .retAddr 0, .retAddr 0, .retAddr 0] [] (den d 170 [.long (J b0 0), .long (J a0 1)] (S sl p I J)) := by
  refine (show den (d + 1) 20 [.ref a0, .ref a1] (S sl p I J) = ev (d + 1) 20 0 [.ref a0, .ref a1, .retAddr 0, .retAddr 0, .retAddr 0, .retAddr 0, .retAddr 0, .retAddr 0] [] (S sl p I J) from rfl).trans ?_
  refine (r_aln (dk D20 0 rfl) rfl).trans ?_
  refine (r_getR (dk D20 1 rfl) ow20 q3_12 h0 hr0).trans ?_
  refine (r_getJ (dk D20 2 rfl) ow20 q3_30 hb0).trans ?_
  refine (r_aln (dk D20 3 rfl) rfl).trans ?_
  refine (r_getJ (dk D20 4 rfl) ow20 q3_22 h0).trans ?_
  exact r_cs (dk D20 5 rfl) ow20 pn3_57 c3_57 mf170 (Nat.le_of_ble_eq_true rfl) rfl rfl (Nat.le_of_ble_eq_true rfl) (Nat.le_of_ble_eq_true rfl)
theorem E20_14 {d sl : Nat} {p : Nat → Nat} {I : Nat → Nat → Int32} {J : Nat → Nat → Int64} {l0 : Nat} {l1 : Nat} (s0 : Int64) {b0 : Nat} (hr0 : RF p l0 0 = some b0) (hb0 : ob b0 0) (hl0 : ob l0 3) (hl1 : ob l1 0) : ev (d + 1) 20 14 [.ref l0, .ref l1, .retAddr 0, .retAddr 0, .retAddr 0, .retAddr 0, .retAddr 0, .retAddr 0] [.long s0] (S sl p I J) = evK (d + 1) 20 29 [.ref l0, .ref l1, .long s0, .retAddr 0, .retAddr 0, .retAddr 0, .retAddr 0, .retAddr 0] [] (den d 170 [.long (J b0 1), .long (J l0 1)] (S sl p I J)) := by
  refine (r_lsn (L' := [.ref l0, .ref l1, .long s0, .retAddr 0, .retAddr 0, .retAddr 0, .retAddr 0, .retAddr 0]) (dk D20 6 rfl) (Nat.le_of_ble_eq_true rfl) rfl).trans ?_
  refine (r_aln (dk D20 7 rfl) rfl).trans ?_
  refine (r_getR (dk D20 8 rfl) ow20 q3_12 hl0 hr0).trans ?_
  refine (r_getJ (dk D20 9 rfl) ow20 q3_33 hb0).trans ?_
  refine (r_aln (dk D20 10 rfl) rfl).trans ?_
  refine (r_getJ (dk D20 11 rfl) ow20 q3_22 hl0).trans ?_
  exact r_cs (dk D20 12 rfl) ow20 pn3_57 c3_57 mf170 (Nat.le_of_ble_eq_true rfl) rfl rfl (Nat.le_of_ble_eq_true rfl) (Nat.le_of_ble_eq_true rfl)
theorem E20_29 {d sl : Nat} {p : Nat → Nat} {I : Nat → Nat → Int32} {J : Nat → Nat → Int64} {l0 : Nat} {l1 : Nat} (l2 : Int64) (s0 : Int64) {b0 : Nat} (hr0 : RF p l0 0 = some b0) (hb0 : ob b0 0) (hl0 : ob l0 3) (hl1 : ob l1 0) : ev (d + 1) 20 29 [.ref l0, .ref l1, .long l2, .retAddr 0, .retAddr 0, .retAddr 0, .retAddr 0, .retAddr 0] [.long s0] (S sl p I J) = evK (d + 1) 20 45 [.ref l0, .ref l1, .long l2, .retAddr 0, .long s0, .retAddr 0, .retAddr 0, .retAddr 0] [] (den d 170 [.long (J b0 2), .long (J l0 1)] (S sl p I J)) := by
  refine (r_ls (L' := [.ref l0, .ref l1, .long l2, .retAddr 0, .long s0, .retAddr 0, .retAddr 0, .retAddr 0]) (dk D20 13 rfl) (Nat.le_of_ble_eq_true rfl) rfl).trans ?_
  refine (r_aln (dk D20 14 rfl) rfl).trans ?_
  refine (r_getR (dk D20 15 rfl) ow20 q3_12 hl0 hr0).trans ?_
  refine (r_getJ (dk D20 16 rfl) ow20 q3_36 hb0).trans ?_
  refine (r_aln (dk D20 17 rfl) rfl).trans ?_
  refine (r_getJ (dk D20 18 rfl) ow20 q3_22 hl0).trans ?_
  exact r_cs (dk D20 19 rfl) ow20 pn3_57 c3_57 mf170 (Nat.le_of_ble_eq_true rfl) rfl rfl (Nat.le_of_ble_eq_true rfl) (Nat.le_of_ble_eq_true rfl)
theorem E20_45 {d sl : Nat} {p : Nat → Nat} {I : Nat → Nat → Int32} {J : Nat → Nat → Int64} {l0 : Nat} {l1 : Nat} (l2 : Int64) (l4 : Int64) (s0 : Int64) (hl0 : ob l0 3) (hl1 : ob l1 0) : ev d 20 45 [.ref l0, .ref l1, .long l2, .retAddr 0, .long l4, .retAddr 0, .retAddr 0, .retAddr 0] [.long s0] (S sl p I J) = (if l2 = 0 then (if l4 = 0 then (if s0 = 0 then ev d 20 76 [.ref l0, .ref l1, .long l2, .retAddr 0, .long l4, .retAddr 0, .long s0, .retAddr 0] [] (S sl p I J) else ev d 20 67 [.ref l0, .ref l1, .long l2, .retAddr 0, .long l4, .retAddr 0, .long s0, .retAddr 0] [] (S sl p I J)) else ev d 20 67 [.ref l0, .ref l1, .long l2, .retAddr 0, .long l4, .retAddr 0, .long s0, .retAddr 0] [] (S sl p I J)) else ev d 20 67 [.ref l0, .ref l1, .long l2, .retAddr 0, .long l4, .retAddr 0, .long s0, .retAddr 0] [] (S sl p I J)) := by
  refine (r_ls (L' := [.ref l0, .ref l1, .long l2, .retAddr 0, .long l4, .retAddr 0, .long s0, .retAddr 0]) (dk D20 20 rfl) (Nat.le_of_ble_eq_true rfl) rfl).trans ?_
  refine (r_lln (dk D20 21 rfl) rfl).trans ?_
  refine (r_lc (dk D20 22 rfl) cl0).trans ?_
  refine (r_jne (dk D20 23 rfl) (dk D20 24 rfl) rfl).trans (ite2 ?_ ?_)
  · refine (r_ll (dk D20 25 rfl) rfl).trans ?_
    refine (r_lc (dk D20 26 rfl) cl0).trans ?_
    refine (r_jne (dk D20 27 rfl) (dk D20 28 rfl) rfl).trans (ite2 ?_ ?_)
    · refine (r_ll (dk D20 29 rfl) rfl).trans ?_
      refine (r_lc (dk D20 30 rfl) cl0).trans ?_
      refine (r_jeq (dk D20 31 rfl) (dk D20 32 rfl) rfl).trans (ite2 ?_ ?_)
      · exact rfl
      · exact rfl
    · exact rfl
  · exact rfl
theorem E20_67 {d sl : Nat} {p : Nat → Nat} {I : Nat → Nat → Int32} {J : Nat → Nat → Int64} {l0 : Nat} {l1 : Nat} (l2 : Int64) (l4 : Int64) (l6 : Int64) (hl0 : ob l0 3) (hl1 : ob l1 0) : ev (d + 1) 20 67 [.ref l0, .ref l1, .long l2, .retAddr 0, .long l4, .retAddr 0, .long l6, .retAddr 0] [] (S sl p I J) = evK (d + 1) 20 76 [.ref l0, .ref l1, .long l2, .retAddr 0, .long l4, .retAddr 0, .long l6, .retAddr 0] [] (den d 1 [.ref l1, .long l2, .long l4, .long l6] (S sl p I J)) := by
  refine (r_aln (dk D20 33 rfl) rfl).trans ?_
  refine (r_lln (dk D20 34 rfl) rfl).trans ?_
  refine (r_ll (dk D20 35 rfl) rfl).trans ?_
  refine (r_ll (dk D20 36 rfl) rfl).trans ?_
  exact r_cv (dk D20 37 rfl) ow20 c3_18 mf1 (Nat.le_of_ble_eq_true rfl) rfl rfl (Nat.le_of_ble_eq_true rfl) (Nat.le_of_ble_eq_true rfl) hl1
theorem E20_76 {d sl : Nat} {p : Nat → Nat} {I : Nat → Nat → Int32} {J : Nat → Nat → Int64} {l0 : Nat} {l1 : Nat} (l2 : Int64) (l4 : Int64) (l6 : Int64) (hl0 : ob l0 3) (hl1 : ob l1 0) : ev (d + 1) 20 76 [.ref l0, .ref l1, .long l2, .retAddr 0, .long l4, .retAddr 0, .long l6, .retAddr 0] [] (S sl p I J) = evK (d + 1) 20 80 [.ref l0, .ref l1, .long l2, .retAddr 0, .long l4, .retAddr 0, .long l6, .retAddr 0] [] (den d 8 [.ref l1] (S sl p I J)) := by
  refine (r_aln (dk D20 38 rfl) rfl).trans ?_
  exact r_cv (dk D20 39 rfl) ow20 c3_66 mf8 (Nat.le_of_ble_eq_true rfl) rfl rfl (Nat.le_of_ble_eq_true rfl) (Nat.le_of_ble_eq_true rfl) hl1
theorem E20_80 {d sl : Nat} {p : Nat → Nat} {I : Nat → Nat → Int32} {J : Nat → Nat → Int64} {l0 : Nat} {l1 : Nat} (l2 : Int64) (l4 : Int64) (l6 : Int64) (hl0 : ob l0 3) (hl1 : ob l1 0) : ev d 20 80 [.ref l0, .ref l1, .long l2, .retAddr 0, .long l4, .retAddr 0, .long l6, .retAddr 0] [] (S sl p I J) = some (none, (S sl p I J)) := by
  exact r_rev (dk D20 40 rfl) rt20
