set_option maxRecDepth 20000 in
theorem D1 : dOK 1 [(0, .aload_n 0, 1), (1, .lload_n 1, 1), (2, .putfield 9, 3), (5, .aload_n 0, 1), (6, .lload_n 3, 1), (7, .putfield 15, 3), (10, .aload_n 0, 1), (11, .lload 5, 2), (13, .putfield 18, 3), (16, .return_, 1)] = true := by decide +kernel
theorem E1_0 {d sl : Nat} {p : Nat → Nat} {I : Nat → Nat → Int32} {J : Nat → Nat → Int64} {a0 : Nat} (a1 : Int64) (a2 : Int64) (a3 : Int64) (h0 : ob a0 0) : den d 1 [.ref a0, .long a1, .long a2, .long a3] (S sl p I J) = some (none, (S sl p I (up2 (up2 (up2 J a0 0 a1) a0 1 a2) a0 2 a3))) := by
  refine (show den d 1 [.ref a0, .long a1, .long a2, .long a3] (S sl p I J) = ev d 1 0 [.ref a0, .long a1, .retAddr 0, .long a2, .retAddr 0, .long a3, .retAddr 0] [] (S sl p I J) from rfl).trans ?_
  refine (r_aln (dk D1 0 rfl) rfl).trans ?_
  refine (r_lln (dk D1 1 rfl) rfl).trans ?_
  refine (r_putJ (dk D1 2 rfl) ow1 w0_9 h0).trans ?_
  refine (r_aln (dk D1 3 rfl) rfl).trans ?_
  refine (r_lln (dk D1 4 rfl) rfl).trans ?_
  refine (r_putJ (dk D1 5 rfl) ow1 w0_15 h0).trans ?_
  refine (r_aln (dk D1 6 rfl) rfl).trans ?_
  refine (r_ll (dk D1 7 rfl) rfl).trans ?_
  refine (r_putJ (dk D1 8 rfl) ow1 w0_18 h0).trans ?_
  exact r_rev (dk D1 9 rfl) rt1
set_option maxRecDepth 20000 in
theorem D2 : dOK 2 [(0, .aload_n 0, 1), (1, .aload_n 1, 1), (2, .getfield 9, 3), (5, .aload_n 1, 1), (6, .getfield 15, 3), (9, .aload_n 1, 1), (10, .getfield 18, 3), (13, .invokevirtual 21, 3), (16, .return_, 1)] = true := by decide +kernel
theorem E2_0 {d sl : Nat} {p : Nat → Nat} {I : Nat → Nat → Int32} {J : Nat → Nat → Int64} {a0 : Nat} {a1 : Nat} (h0 : ob a0 0) (h1 : ob a1 0) : den (d + 1) 2 [.ref a0, .ref a1] (S sl p I J) = evK (d + 1) 2 16 [.ref a0, .ref a1] [] (den d 1 [.ref a0, .long (J a1 0), .long (J a1 1), .long (J a1 2)] (S sl p I J)) := by
  refine (show den (d + 1) 2 [.ref a0, .ref a1] (S sl p I J) = ev (d + 1) 2 0 [.ref a0, .ref a1] [] (S sl p I J) from rfl).trans ?_
  refine (r_aln (dk D2 0 rfl) rfl).trans ?_
  refine (r_aln (dk D2 1 rfl) rfl).trans ?_
  refine (r_getJ (dk D2 2 rfl) ow2 q0_9 h1).trans ?_
  refine (r_aln (dk D2 3 rfl) rfl).trans ?_
  refine (r_getJ (dk D2 4 rfl) ow2 q0_15 h1).trans ?_
  refine (r_aln (dk D2 5 rfl) rfl).trans ?_
  refine (r_getJ (dk D2 6 rfl) ow2 q0_18 h1).trans ?_
  exact r_cv (dk D2 7 rfl) ow2 c0_21 mf1 (Nat.le_of_ble_eq_true rfl) rfl rfl (Nat.le_of_ble_eq_true rfl) (Nat.le_of_ble_eq_true rfl) h0
theorem E2_16 {d sl : Nat} {p : Nat → Nat} {I : Nat → Nat → Int32} {J : Nat → Nat → Int64} {l0 : Nat} {l1 : Nat} (hl0 : ob l0 0) (hl1 : ob l1 0) : ev d 2 16 [.ref l0, .ref l1] [] (S sl p I J) = some (none, (S sl p I J)) := by
  exact r_rev (dk D2 8 rfl) rt2
set_option maxRecDepth 20000 in
theorem D3 : dOK 3 [(0, .iload_n 1, 1), (1, .ifCond .ne 8, 3), (4, .aload_n 0, 1), (5, .getfield 9, 3), (8, .lreturn, 1), (9, .iload_n 1, 1), (10, .iconst 1, 1), (11, .if_icmp .ne 10, 3), (14, .aload_n 0, 1), (15, .getfield 15, 3), (18, .goto 7, 3), (21, .aload_n 0, 1), (22, .getfield 18, 3), (25, .lreturn, 1)] = true := by decide +kernel
theorem E3_0 {d sl : Nat} {p : Nat → Nat} {I : Nat → Nat → Int32} {J : Nat → Nat → Int64} {a0 : Nat} (a1 : Int32) (h0 : ob a0 0) : den d 3 [.ref a0, .int a1] (S sl p I J) = (if a1 = 0 then some (some (.long (J a0 0)), (S sl p I J)) else (if a1 = 1 then some (some (.long (J a0 1)), (S sl p I J)) else some (some (.long (J a0 2)), (S sl p I J)))) := by
  refine (show den d 3 [.ref a0, .int a1] (S sl p I J) = ev d 3 0 [.ref a0, .int a1] [] (S sl p I J) from rfl).trans ?_
  refine (r_iln (dk D3 0 rfl) rfl).trans ?_
  refine (r_ne0 (dk D3 1 rfl) rfl).trans (ite2 ?_ ?_)
  · refine (r_aln (dk D3 2 rfl) rfl).trans ?_
    refine (r_getJ (dk D3 3 rfl) ow3 q0_9 h0).trans ?_
    exact r_rel (dk D3 4 rfl) rt3
  · refine (r_iln (dk D3 5 rfl) rfl).trans ?_
    refine (r_ic (dk D3 6 rfl) ci1).trans ?_
    refine (r_ne (dk D3 7 rfl) rfl).trans (ite2 ?_ ?_)
    · refine (r_aln (dk D3 8 rfl) rfl).trans ?_
      refine (r_getJ (dk D3 9 rfl) ow3 q0_15 h0).trans ?_
      refine (r_goto (L' := [.ref a0, .int a1]) (dk D3 10 rfl) rfl nd3_25 rfl).trans ?_
      exact r_rel (dk D3 13 rfl) rt3
    · refine (r_aln (dk D3 11 rfl) rfl).trans ?_
      refine (r_getJ (dk D3 12 rfl) ow3 q0_18 h0).trans ?_
      exact r_rel (dk D3 13 rfl) rt3
set_option maxRecDepth 20000 in
theorem D4 : dOK 4 [(0, .aload_n 0, 1), (1, .getfield 9, 3), (4, .aload_n 1, 1), (5, .getfield 9, 3), (8, .lmul, 1), (9, .aload_n 0, 1), (10, .getfield 15, 3), (13, .aload_n 1, 1), (14, .getfield 15, 3), (17, .lmul, 1), (18, .ladd, 1), (19, .aload_n 0, 1), (20, .getfield 18, 3), (23, .aload_n 1, 1), (24, .getfield 18, 3), (27, .lmul, 1), (28, .ladd, 1), (29, .lreturn, 1)] = true := by decide +kernel
theorem E4_0 {d sl : Nat} {p : Nat → Nat} {I : Nat → Nat → Int32} {J : Nat → Nat → Int64} {a0 : Nat} {a1 : Nat} (h0 : ob a0 0) (h1 : ob a1 0) : den d 4 [.ref a0, .ref a1] (S sl p I J) = some (some (.long ((((J a0 0) * (J a1 0)) + ((J a0 1) * (J a1 1))) + ((J a0 2) * (J a1 2)))), (S sl p I J)) := by
  refine (show den d 4 [.ref a0, .ref a1] (S sl p I J) = ev d 4 0 [.ref a0, .ref a1] [] (S sl p I J) from rfl).trans ?_
  refine (r_aln (dk D4 0 rfl) rfl).trans ?_
  refine (r_getJ (dk D4 1 rfl) ow4 q0_9 h0).trans ?_
  refine (r_aln (dk D4 2 rfl) rfl).trans ?_
  refine (r_getJ (dk D4 3 rfl) ow4 q0_9 h1).trans ?_
  refine (r_lmul (dk D4 4 rfl)).trans ?_
  refine (r_aln (dk D4 5 rfl) rfl).trans ?_
  refine (r_getJ (dk D4 6 rfl) ow4 q0_15 h0).trans ?_
  refine (r_aln (dk D4 7 rfl) rfl).trans ?_
  refine (r_getJ (dk D4 8 rfl) ow4 q0_15 h1).trans ?_
  refine (r_lmul (dk D4 9 rfl)).trans ?_
  refine (r_ladd (dk D4 10 rfl)).trans ?_
  refine (r_aln (dk D4 11 rfl) rfl).trans ?_
  refine (r_getJ (dk D4 12 rfl) ow4 q0_18 h0).trans ?_
  refine (r_aln (dk D4 13 rfl) rfl).trans ?_
  refine (r_getJ (dk D4 14 rfl) ow4 q0_18 h1).trans ?_
  refine (r_lmul (dk D4 15 rfl)).trans ?_
  refine (r_ladd (dk D4 16 rfl)).trans ?_
  exact r_rel (dk D4 17 rfl) rt4
set_option maxRecDepth 20000 in
theorem D5 : dOK 5 [(0, .aload_n 0, 1), (1, .getfield 9, 3), (4, .aload_n 0, 1), (5, .getfield 9, 3), (8, .lmul, 1), (9, .aload_n 0, 1), (10, .getfield 15, 3), (13, .aload_n 0, 1), (14, .getfield 15, 3), (17, .lmul, 1), (18, .ladd, 1), (19, .aload_n 0, 1), (20, .getfield 18, 3), (23, .aload_n 0, 1), (24, .getfield 18, 3), (27, .lmul, 1), (28, .ladd, 1), (29, .lreturn, 1)] = true := by decide +kernel
theorem E5_0 {d sl : Nat} {p : Nat → Nat} {I : Nat → Nat → Int32} {J : Nat → Nat → Int64} {a0 : Nat} (h0 : ob a0 0) : den d 5 [.ref a0] (S sl p I J) = some (some (.long ((((J a0 0) * (J a0 0)) + ((J a0 1) * (J a0 1))) + ((J a0 2) * (J a0 2)))), (S sl p I J)) := by
  refine (show den d 5 [.ref a0] (S sl p I J) = ev d 5 0 [.ref a0] [] (S sl p I J) from rfl).trans ?_
  refine (r_aln (dk D5 0 rfl) rfl).trans ?_
  refine (r_getJ (dk D5 1 rfl) ow5 q0_9 h0).trans ?_
  refine (r_aln (dk D5 2 rfl) rfl).trans ?_
  refine (r_getJ (dk D5 3 rfl) ow5 q0_9 h0).trans ?_
  refine (r_lmul (dk D5 4 rfl)).trans ?_
  refine (r_aln (dk D5 5 rfl) rfl).trans ?_
  refine (r_getJ (dk D5 6 rfl) ow5 q0_15 h0).trans ?_
  refine (r_aln (dk D5 7 rfl) rfl).trans ?_
  refine (r_getJ (dk D5 8 rfl) ow5 q0_15 h0).trans ?_
  refine (r_lmul (dk D5 9 rfl)).trans ?_
  refine (r_ladd (dk D5 10 rfl)).trans ?_
  refine (r_aln (dk D5 11 rfl) rfl).trans ?_
  refine (r_getJ (dk D5 12 rfl) ow5 q0_18 h0).trans ?_
  refine (r_aln (dk D5 13 rfl) rfl).trans ?_
  refine (r_getJ (dk D5 14 rfl) ow5 q0_18 h0).trans ?_
  refine (r_lmul (dk D5 15 rfl)).trans ?_
  refine (r_ladd (dk D5 16 rfl)).trans ?_
  exact r_rel (dk D5 17 rfl) rt5
set_option maxRecDepth 20000 in
theorem D6 : dOK 6 [(0, .aload_n 0, 1), (1, .getfield 9, 3), (4, .lconst 0, 1), (5, .lcmp, 1), (6, .ifCond .ne 25, 3), (9, .aload_n 0, 1), (10, .getfield 15, 3), (13, .lconst 0, 1), (14, .lcmp, 1), (15, .ifCond .ne 16, 3), (18, .aload_n 0, 1), (19, .getfield 18, 3), (22, .lconst 0, 1), (23, .lcmp, 1), (24, .ifCond .ne 7, 3), (27, .iconst 1, 1), (28, .goto 4, 3), (31, .iconst 0, 1), (32, .ireturn, 1)] = true := by decide +kernel
theorem E6_0 {d sl : Nat} {p : Nat → Nat} {I : Nat → Nat → Int32} {J : Nat → Nat → Int64} {a0 : Nat} (h0 : ob a0 0) : den d 6 [.ref a0] (S sl p I J) = (if (J a0 0) = 0 then (if (J a0 1) = 0 then (if (J a0 2) = 0 then some (some (.int 1), (S sl p I J)) else some (some (.int 0), (S sl p I J))) else some (some (.int 0), (S sl p I J))) else some (some (.int 0), (S sl p I J))) := by
  refine (show den d 6 [.ref a0] (S sl p I J) = ev d 6 0 [.ref a0] [] (S sl p I J) from rfl).trans ?_
  refine (r_aln (dk D6 0 rfl) rfl).trans ?_
  refine (r_getJ (dk D6 1 rfl) ow6 q0_9 h0).trans ?_
  refine (r_lc (dk D6 2 rfl) cl0).trans ?_
  refine (r_jne (dk D6 3 rfl) (dk D6 4 rfl) rfl).trans (ite2 ?_ ?_)
  · refine (r_aln (dk D6 5 rfl) rfl).trans ?_
    refine (r_getJ (dk D6 6 rfl) ow6 q0_15 h0).trans ?_
    refine (r_lc (dk D6 7 rfl) cl0).trans ?_
    refine (r_jne (dk D6 8 rfl) (dk D6 9 rfl) rfl).trans (ite2 ?_ ?_)
    · refine (r_aln (dk D6 10 rfl) rfl).trans ?_
      refine (r_getJ (dk D6 11 rfl) ow6 q0_18 h0).trans ?_
      refine (r_lc (dk D6 12 rfl) cl0).trans ?_
      refine (r_jne (dk D6 13 rfl) (dk D6 14 rfl) rfl).trans (ite2 ?_ ?_)
      · refine (r_ic (dk D6 15 rfl) ci1).trans ?_
        refine (r_goto (L' := [.ref a0]) (dk D6 16 rfl) rfl nd6_32 rfl).trans ?_
        exact r_rez (dk D6 18 rfl) rt6 (by decide)
      · refine (r_ic (dk D6 17 rfl) ci0).trans ?_
        exact r_rez (dk D6 18 rfl) rt6 (by decide)
    · refine (r_ic (dk D6 17 rfl) ci0).trans ?_
      exact r_rez (dk D6 18 rfl) rt6 (by decide)
  · refine (r_ic (dk D6 17 rfl) ci0).trans ?_
    exact r_rez (dk D6 18 rfl) rt6 (by decide)
set_option maxRecDepth 20000 in
theorem D7 : dOK 7 [(0, .aload_n 0, 1), (1, .aload_n 1, 1), (2, .getfield 15, 3), (5, .aload_n 2, 1), (6, .getfield 18, 3), (9, .lmul, 1), (10, .aload_n 1, 1), (11, .getfield 18, 3), (14, .aload_n 2, 1), (15, .getfield 15, 3), (18, .lmul, 1), (19, .lsub, 1), (20, .ldc2_w 25, 3), (23, .ldiv, 1), (24, .aload_n 1, 1), (25, .getfield 18, 3), (28, .aload_n 2, 1), (29, .getfield 9, 3), (32, .lmul, 1), (33, .aload_n 1, 1), (34, .getfield 9, 3), (37, .aload_n 2, 1), (38, .getfield 18, 3), (41, .lmul, 1), (42, .lsub, 1), (43, .ldc2_w 25, 3), (46, .ldiv, 1), (47, .aload_n 1, 1), (48, .getfield 9, 3), (51, .aload_n 2, 1), (52, .getfield 15, 3), (55, .lmul, 1), (56, .aload_n 1, 1), (57, .getfield 15, 3), (60, .aload_n 2, 1), (61, .getfield 9, 3), (64, .lmul, 1), (65, .lsub, 1), (66, .ldc2_w 25, 3), (69, .ldiv, 1), (70, .invokevirtual 21, 3), (73, .return_, 1)] = true := by decide +kernel
theorem E7_0 {d sl : Nat} {p : Nat → Nat} {I : Nat → Nat → Int32} {J : Nat → Nat → Int64} {a0 : Nat} {a1 : Nat} {a2 : Nat} (h0 : ob a0 0) (h1 : ob a1 0) (h2 : ob a2 0) : den (d + 1) 7 [.ref a0, .ref a1, .ref a2] (S sl p I J) = evK (d + 1) 7 73 [.ref a0, .ref a1, .ref a2] [] (den d 1 [.ref a0, .long ((((J a1 1) * (J a2 2)) - ((J a1 2) * (J a2 1))) / 1000), .long ((((J a1 2) * (J a2 0)) - ((J a1 0) * (J a2 2))) / 1000), .long ((((J a1 0) * (J a2 1)) - ((J a1 1) * (J a2 0))) / 1000)] (S sl p I J)) := by
  refine (show den (d + 1) 7 [.ref a0, .ref a1, .ref a2] (S sl p I J) = ev (d + 1) 7 0 [.ref a0, .ref a1, .ref a2] [] (S sl p I J) from rfl).trans ?_
  refine (r_aln (dk D7 0 rfl) rfl).trans ?_
  refine (r_aln (dk D7 1 rfl) rfl).trans ?_
  refine (r_getJ (dk D7 2 rfl) ow7 q0_15 h1).trans ?_
  refine (r_aln (dk D7 3 rfl) rfl).trans ?_
  refine (r_getJ (dk D7 4 rfl) ow7 q0_18 h2).trans ?_
  refine (r_lmul (dk D7 5 rfl)).trans ?_
  refine (r_aln (dk D7 6 rfl) rfl).trans ?_
  refine (r_getJ (dk D7 7 rfl) ow7 q0_18 h1).trans ?_
  refine (r_aln (dk D7 8 rfl) rfl).trans ?_
  refine (r_getJ (dk D7 9 rfl) ow7 q0_15 h2).trans ?_
  refine (r_lmul (dk D7 10 rfl)).trans ?_
  refine (r_lsub (dk D7 11 rfl)).trans ?_
  refine (r_ld2 (dk D7 12 rfl) ow7 kk0_25).trans ?_
  refine (r_ldiv (dk D7 13 rfl) (by decide)).trans ?_
  refine (r_aln (dk D7 14 rfl) rfl).trans ?_
  refine (r_getJ (dk D7 15 rfl) ow7 q0_18 h1).trans ?_
  refine (r_aln (dk D7 16 rfl) rfl).trans ?_
  refine (r_getJ (dk D7 17 rfl) ow7 q0_9 h2).trans ?_
  refine (r_lmul (dk D7 18 rfl)).trans ?_
  refine (r_aln (dk D7 19 rfl) rfl).trans ?_
  refine (r_getJ (dk D7 20 rfl) ow7 q0_9 h1).trans ?_
  refine (r_aln (dk D7 21 rfl) rfl).trans ?_
  refine (r_getJ (dk D7 22 rfl) ow7 q0_18 h2).trans ?_
  refine (r_lmul (dk D7 23 rfl)).trans ?_
  refine (r_lsub (dk D7 24 rfl)).trans ?_
  refine (r_ld2 (dk D7 25 rfl) ow7 kk0_25).trans ?_
  refine (r_ldiv (dk D7 26 rfl) (by decide)).trans ?_
  refine (r_aln (dk D7 27 rfl) rfl).trans ?_
  refine (r_getJ (dk D7 28 rfl) ow7 q0_9 h1).trans ?_
  refine (r_aln (dk D7 29 rfl) rfl).trans ?_
  refine (r_getJ (dk D7 30 rfl) ow7 q0_15 h2).trans ?_
  refine (r_lmul (dk D7 31 rfl)).trans ?_
  refine (r_aln (dk D7 32 rfl) rfl).trans ?_
  refine (r_getJ (dk D7 33 rfl) ow7 q0_15 h1).trans ?_
  refine (r_aln (dk D7 34 rfl) rfl).trans ?_
  refine (r_getJ (dk D7 35 rfl) ow7 q0_9 h2).trans ?_
  refine (r_lmul (dk D7 36 rfl)).trans ?_
  refine (r_lsub (dk D7 37 rfl)).trans ?_
  refine (r_ld2 (dk D7 38 rfl) ow7 kk0_25).trans ?_
  refine (r_ldiv (dk D7 39 rfl) (by decide)).trans ?_
  exact r_cv (dk D7 40 rfl) ow7 c0_21 mf1 (Nat.le_of_ble_eq_true rfl) rfl rfl (Nat.le_of_ble_eq_true rfl) (Nat.le_of_ble_eq_true rfl) h0
theorem E7_73 {d sl : Nat} {p : Nat → Nat} {I : Nat → Nat → Int32} {J : Nat → Nat → Int64} {l0 : Nat} {l1 : Nat} {l2 : Nat} (hl0 : ob l0 0) (hl1 : ob l1 0) (hl2 : ob l2 0) : ev d 7 73 [.ref l0, .ref l1, .ref l2] [] (S sl p I J) = some (none, (S sl p I J)) := by
  exact r_rev (dk D7 41 rfl) rt7
set_option maxRecDepth 20000 in
theorem D8 : dOK 8 [(0, .aload_n 0, 1), (1, .getfield 18, 3), (4, .lconst 0, 1), (5, .lcmp, 1), (6, .ifCond .lt 39, 3), (9, .aload_n 0, 1), (10, .getfield 18, 3), (13, .lconst 0, 1), (14, .lcmp, 1), (15, .ifCond .ne 34, 3), (18, .aload_n 0, 1), (19, .getfield 15, 3), (22, .lconst 0, 1), (23, .lcmp, 1), (24, .ifCond .lt 21, 3), (27, .aload_n 0, 1), (28, .getfield 15, 3), (31, .lconst 0, 1), (32, .lcmp, 1), (33, .ifCond .ne 16, 3), (36, .aload_n 0, 1), (37, .getfield 9, 3), (40, .lconst 0, 1), (41, .lcmp, 1), (42, .ifCond .ge 7, 3), (45, .iconst 1, 1), (46, .goto 4, 3), (49, .iconst 0, 1), (50, .istore_n 1, 1), (51, .iload_n 1, 1), (52, .ifCond .eq 22, 3), (55, .aload_n 0, 1), (56, .aload_n 0, 1), (57, .getfield 9, 3), (60, .lneg, 1), (61, .aload_n 0, 1), (62, .getfield 15, 3), (65, .lneg, 1), (66, .aload_n 0, 1), (67, .getfield 18, 3), (70, .lneg, 1), (71, .invokevirtual 21, 3), (74, .return_, 1)] = true := by decide +kernel
theorem E8_0 {d sl : Nat} {p : Nat → Nat} {I : Nat → Nat → Int32} {J : Nat → Nat → Int64} {a0 : Nat} (h0 : ob a0 0) : den d 8 [.ref a0] (S sl p I J) = (if (J a0 2) < 0 then ev d 8 45 [.ref a0, .retAddr 0] [] (S sl p I J) else (if (J a0 2) = 0 then (if (J a0 1) < 0 then ev d 8 45 [.ref a0, .retAddr 0] [] (S sl p I J) else (if (J a0 1) = 0 then (if (J a0 0) < 0 then ev d 8 45 [.ref a0, .retAddr 0] [] (S sl p I J) else ev d 8 49 [.ref a0, .retAddr 0] [] (S sl p I J)) else ev d 8 49 [.ref a0, .retAddr 0] [] (S sl p I J))) else ev d 8 49 [.ref a0, .retAddr 0] [] (S sl p I J))) := by
  refine (show den d 8 [.ref a0] (S sl p I J) = ev d 8 0 [.ref a0, .retAddr 0] [] (S sl p I J) from rfl).trans ?_
  refine (r_aln (dk D8 0 rfl) rfl).trans ?_
  refine (r_getJ (dk D8 1 rfl) ow8 q0_18 h0).trans ?_
  refine (r_lc (dk D8 2 rfl) cl0).trans ?_
  refine (r_jlt (dk D8 3 rfl) (dk D8 4 rfl) rfl).trans (ite2 ?_ ?_)
  · exact rfl
  · refine (r_aln (dk D8 5 rfl) rfl).trans ?_
    refine (r_getJ (dk D8 6 rfl) ow8 q0_18 h0).trans ?_
    refine (r_lc (dk D8 7 rfl) cl0).trans ?_
    refine (r_jne (dk D8 8 rfl) (dk D8 9 rfl) rfl).trans (ite2 ?_ ?_)
    · refine (r_aln (dk D8 10 rfl) rfl).trans ?_
      refine (r_getJ (dk D8 11 rfl) ow8 q0_15 h0).trans ?_
      refine (r_lc (dk D8 12 rfl) cl0).trans ?_
      refine (r_jlt (dk D8 13 rfl) (dk D8 14 rfl) rfl).trans (ite2 ?_ ?_)
      · exact rfl
      · refine (r_aln (dk D8 15 rfl) rfl).trans ?_
        refine (r_getJ (dk D8 16 rfl) ow8 q0_15 h0).trans ?_
        refine (r_lc (dk D8 17 rfl) cl0).trans ?_
        refine (r_jne (dk D8 18 rfl) (dk D8 19 rfl) rfl).trans (ite2 ?_ ?_)
        · refine (r_aln (dk D8 20 rfl) rfl).trans ?_
          refine (r_getJ (dk D8 21 rfl) ow8 q0_9 h0).trans ?_
          refine (r_lc (dk D8 22 rfl) cl0).trans ?_
          refine (r_jge (dk D8 23 rfl) (dk D8 24 rfl) rfl).trans (ite2 ?_ ?_)
          · exact rfl
          · exact rfl
        · exact rfl
    · exact rfl
theorem E8_45 {d sl : Nat} {p : Nat → Nat} {I : Nat → Nat → Int32} {J : Nat → Nat → Int64} {l0 : Nat} (hl0 : ob l0 0) : ev d 8 45 [.ref l0, .retAddr 0] [] (S sl p I J) = ev d 8 50 [.ref l0, .retAddr 0] [.int 1] (S sl p I J) := by
  refine (r_ic (dk D8 25 rfl) ci1).trans ?_
  refine (r_goto (L' := [.ref l0, .retAddr 0]) (dk D8 26 rfl) rfl nd8_50 rfl).trans ?_
  exact rfl
theorem E8_49 {d sl : Nat} {p : Nat → Nat} {I : Nat → Nat → Int32} {J : Nat → Nat → Int64} {l0 : Nat} (hl0 : ob l0 0) : ev d 8 49 [.ref l0, .retAddr 0] [] (S sl p I J) = ev d 8 50 [.ref l0, .retAddr 0] [.int 0] (S sl p I J) := by
  refine (r_ic (dk D8 27 rfl) ci0).trans ?_
  exact rfl
theorem E8_50 {d sl : Nat} {p : Nat → Nat} {I : Nat → Nat → Int32} {J : Nat → Nat → Int64} {l0 : Nat} (s0 : Int32) (hl0 : ob l0 0) : ev (d + 1) 8 50 [.ref l0, .retAddr 0] [.int s0] (S sl p I J) = (if s0 = 0 then some (none, (S sl p I J)) else evK (d + 1) 8 74 [.ref l0, .int s0] [] (den d 1 [.ref l0, .long (-(J l0 0)), .long (-(J l0 1)), .long (-(J l0 2))] (S sl p I J))) := by
  refine (r_isn (L' := [.ref l0, .int s0]) (dk D8 28 rfl) (Nat.le_of_ble_eq_true rfl) rfl).trans ?_
  refine (r_iln (dk D8 29 rfl) rfl).trans ?_
  refine (r_eq0 (dk D8 30 rfl) rfl).trans (ite2 ?_ ?_)
  · exact r_rev (dk D8 42 rfl) rt8
  · refine (r_aln (dk D8 31 rfl) rfl).trans ?_
    refine (r_aln (dk D8 32 rfl) rfl).trans ?_
    refine (r_getJ (dk D8 33 rfl) ow8 q0_9 hl0).trans ?_
    refine (r_lneg (dk D8 34 rfl)).trans ?_
    refine (r_aln (dk D8 35 rfl) rfl).trans ?_
    refine (r_getJ (dk D8 36 rfl) ow8 q0_15 hl0).trans ?_
    refine (r_lneg (dk D8 37 rfl)).trans ?_
    refine (r_aln (dk D8 38 rfl) rfl).trans ?_
    refine (r_getJ (dk D8 39 rfl) ow8 q0_18 hl0).trans ?_
    refine (r_lneg (dk D8 40 rfl)).trans ?_
    exact r_cv (dk D8 41 rfl) ow8 c0_21 mf1 (Nat.le_of_ble_eq_true rfl) rfl rfl (Nat.le_of_ble_eq_true rfl) (Nat.le_of_ble_eq_true rfl) hl0
theorem E8_74 {d sl : Nat} {p : Nat → Nat} {I : Nat → Nat → Int32} {J : Nat → Nat → Int64} {l0 : Nat} (l1 : Int32) (hl0 : ob l0 0) : ev d 8 74 [.ref l0, .int l1] [] (S sl p I J) = some (none, (S sl p I J)) := by
  exact r_rev (dk D8 42 rfl) rt8
