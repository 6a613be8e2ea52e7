set_option maxRecDepth 20000 in
theorem D25 : dOK 25 [(0, .iload_n 0, 1), (1, .sipush 180, 3), (4, .iload_n 0, 1), (5, .isub, 1), (6, .imul, 1), (7, .istore_n 1, 1), (8, .ldc2_w 19, 3), (11, .iload_n 1, 1), (12, .i2l, 1), (13, .lmul, 1), (14, .ldc 21, 2), (16, .iload_n 1, 1), (17, .isub, 1), (18, .i2l, 1), (19, .invokestatic 22, 3), (22, .l2i, 1), (23, .ireturn, 1)] = true := by decide +kernel
theorem E25_0 {d sl : Nat} {p : Nat → Nat} {I : Nat → Nat → Int32} {J : Nat → Nat → Int64} (a0 : Int32)  : den (d + 1) 25 [.int a0] (S sl p I J) = evK (d + 1) 25 22 [.int a0, .int (a0 * (180 - a0))] [] (den d 170 [.long (4000 * (Int32.toInt64 (a0 * (180 - a0)))), .long (Int32.toInt64 (40500 - (a0 * (180 - a0))))] (S sl p I J)) := by
  refine (show den (d + 1) 25 [.int a0] (S sl p I J) = ev (d + 1) 25 0 [.int a0, .retAddr 0] [] (S sl p I J) from rfl).trans ?_
  refine (r_iln (dk D25 0 rfl) rfl).trans ?_
  refine (r_sp (dk D25 1 rfl) cs180).trans ?_
  refine (r_iln (dk D25 2 rfl) rfl).trans ?_
  refine (r_isub (dk D25 3 rfl)).trans ?_
  refine (r_imul (dk D25 4 rfl)).trans ?_
  refine (r_isn (L' := [.int a0, .int (a0 * (180 - a0))]) (dk D25 5 rfl) (Nat.le_of_ble_eq_true rfl) rfl).trans ?_
  refine (r_ld2 (dk D25 6 rfl) ow25 kk5_19).trans ?_
  refine (r_iln (dk D25 7 rfl) rfl).trans ?_
  refine (r_i2l (dk D25 8 rfl)).trans ?_
  refine (r_lmul (dk D25 9 rfl)).trans ?_
  refine (r_ldc (dk D25 10 rfl) ow25 k5_21).trans ?_
  refine (r_iln (dk D25 11 rfl) rfl).trans ?_
  refine (r_isub (dk D25 12 rfl)).trans ?_
  refine (r_i2l (dk D25 13 rfl)).trans ?_
  exact r_cs (dk D25 14 rfl) ow25 pn5_22 c5_22 mf170 (Nat.le_of_ble_eq_true rfl) rfl rfl (Nat.le_of_ble_eq_true rfl) (Nat.le_of_ble_eq_true rfl)
theorem E25_22 {d sl : Nat} {p : Nat → Nat} {I : Nat → Nat → Int32} {J : Nat → Nat → Int64} (l0 : Int32) (l1 : Int32) (s0 : Int64)  : ev d 25 22 [.int l0, .int l1] [.long s0] (S sl p I J) = some (some (.int (Int64.toInt32 s0)), (S sl p I J)) := by
  refine (r_l2i (dk D25 15 rfl)).trans ?_
  exact r_ret (dk D25 16 rfl) rt25
set_option maxRecDepth 20000 in
theorem D26 : dOK 26 [(0, .aload_n 0, 1), (1, .getfield 9, 3), (4, .iload_n 1, 1), (5, .sipush 360, 3), (8, .invokestatic 26, 3), (11, .iaload, 1), (12, .ireturn, 1)] = true := by decide +kernel
theorem E26_0 {d sl : Nat} {p : Nat → Nat} {I : Nat → Nat → Int32} {J : Nat → Nat → Int64} (a1 : Int32)  : den (d + 1) 26 [.ref 2, .int a1] (S sl p I J) = ck (ixb 630 (fmod a1)) (some (some (.int (I 3 (Int32.toNatClampNeg (fmod a1)))), (S sl p I J))) := by
  refine (show den (d + 1) 26 [.ref 2, .int a1] (S sl p I J) = ev (d + 1) 26 0 [.ref 2, .int a1] [] (S sl p I J) from rfl).trans ?_
  refine (r_aln (dk D26 0 rfl) rfl).trans ?_
  refine (r_getR (dk D26 1 rfl) ow26 q5_9 ob_2 rfl).trans ?_
  refine (r_iln (dk D26 2 rfl) rfl).trans ?_
  refine (r_sp (dk D26 3 rfl) cs360).trans ?_
  refine (r_prm (st' := [.int (fmod a1), .ref 3]) (dk D26 4 rfl) ow26 p5_26 (Nat.le_of_ble_eq_true rfl) rfl).trans ?_
  refine (r_ild (dk D26 5 rfl) ar_3).trans (ck3 fun g1 => ?_)
  exact r_ret (dk D26 6 rfl) rt26
set_option maxRecDepth 20000 in
theorem D27 : dOK 27 [(0, .aload_n 0, 1), (1, .getfield 9, 3), (4, .iload_n 1, 1), (5, .sipush 360, 3), (8, .invokestatic 26, 3), (11, .bipush 90, 2), (13, .iadd, 1), (14, .iaload, 1), (15, .ireturn, 1)] = true := by decide +kernel
theorem E27_0 {d sl : Nat} {p : Nat → Nat} {I : Nat → Nat → Int32} {J : Nat → Nat → Int64} (a1 : Int32)  : den (d + 1) 27 [.ref 2, .int a1] (S sl p I J) = ck (ixb 630 ((fmod a1) + 90)) (some (some (.int (I 3 (Int32.toNatClampNeg ((fmod a1) + 90)))), (S sl p I J))) := by
  refine (show den (d + 1) 27 [.ref 2, .int a1] (S sl p I J) = ev (d + 1) 27 0 [.ref 2, .int a1] [] (S sl p I J) from rfl).trans ?_
  refine (r_aln (dk D27 0 rfl) rfl).trans ?_
  refine (r_getR (dk D27 1 rfl) ow27 q5_9 ob_2 rfl).trans ?_
  refine (r_iln (dk D27 2 rfl) rfl).trans ?_
  refine (r_sp (dk D27 3 rfl) cs360).trans ?_
  refine (r_prm (st' := [.int (fmod a1), .ref 3]) (dk D27 4 rfl) ow27 p5_26 (Nat.le_of_ble_eq_true rfl) rfl).trans ?_
  refine (r_bp (dk D27 5 rfl) cb90).trans ?_
  refine (r_iadd (dk D27 6 rfl)).trans ?_
  refine (r_ild (dk D27 7 rfl) ar_3).trans (ck3 fun g1 => ?_)
  exact r_ret (dk D27 8 rfl) rt27
set_option maxRecDepth 20000 in
theorem D28 : dOK 28 [(0, .iload_n 1, 1), (1, .iload_n 2, 1), (2, .invokestatic 32, 3), (5, .sipush 180, 3), (8, .iadd, 1), (9, .istore 4, 2), (11, .aload_n 0, 1), (12, .getfield 9, 3), (15, .iload_n 2, 1), (16, .iaload, 1), (17, .istore 5, 2), (19, .aload_n 3, 1), (20, .iload 5, 2), (22, .aload_n 0, 1), (23, .getfield 9, 3), (26, .iload 4, 2), (28, .bipush 90, 2), (30, .iadd, 1), (31, .iaload, 1), (32, .imul, 1), (33, .sipush 1000, 3), (36, .idiv, 1), (37, .i2l, 1), (38, .iload 5, 2), (40, .aload_n 0, 1), (41, .getfield 9, 3), (44, .iload 4, 2), (46, .iaload, 1), (47, .imul, 1), (48, .sipush 1000, 3), (51, .idiv, 1), (52, .i2l, 1), (53, .aload_n 0, 1), (54, .getfield 9, 3), (57, .iload_n 2, 1), (58, .bipush 90, 2), (60, .iadd, 1), (61, .iaload, 1), (62, .i2l, 1), (63, .invokevirtual 35, 3), (66, .return_, 1)] = true := by decide +kernel
theorem E28_0 {d sl : Nat} {p : Nat → Nat} {I : Nat → Nat → Int32} {J : Nat → Nat → Int64} (a1 : Int32) (a2 : Int32) {a3 : Nat} (h3 : ob a3 0) : den (d + 1) 28 [.ref 2, .int a1, .int a2, .ref a3] (S sl p I J) = evK (d + 1) 28 5 [.ref 2, .int a1, .int a2, .ref a3, .retAddr 0, .retAddr 0] [] (den d 173 [.int a1, .int a2] (S sl p I J)) := by
  refine (show den (d + 1) 28 [.ref 2, .int a1, .int a2, .ref a3] (S sl p I J) = ev (d + 1) 28 0 [.ref 2, .int a1, .int a2, .ref a3, .retAddr 0, .retAddr 0] [] (S sl p I J) from rfl).trans ?_
  refine (r_iln (dk D28 0 rfl) rfl).trans ?_
  refine (r_iln (dk D28 1 rfl) rfl).trans ?_
  exact r_cs (dk D28 2 rfl) ow28 pn5_32 c5_32 mf173 (Nat.le_of_ble_eq_true rfl) rfl rfl (Nat.le_of_ble_eq_true rfl) (Nat.le_of_ble_eq_true rfl)
theorem E28_5 {d sl : Nat} {p : Nat → Nat} {I : Nat → Nat → Int32} {J : Nat → Nat → Int64} (l1 : Int32) (l2 : Int32) {l3 : Nat} (s0 : Int32) (hl3 : ob l3 0) : ev (d + 1) 28 5 [.ref 2, .int l1, .int l2, .ref l3, .retAddr 0, .retAddr 0] [.int s0] (S sl p I J) = ck (ixb 630 l2) (ck (ixb 630 ((s0 + 180) + 90)) (ck (ixb 630 (s0 + 180)) (ck (ixb 630 (l2 + 90)) (evK (d + 1) 28 66 [.ref 2, .int l1, .int l2, .ref l3, .int (s0 + 180), .int (I 3 (Int32.toNatClampNeg l2))] [] (den d 1 [.ref l3, .long (Int32.toInt64 (((I 3 (Int32.toNatClampNeg l2)) * (I 3 (Int32.toNatClampNeg ((s0 + 180) + 90)))) / 1000)), .long (Int32.toInt64 (((I 3 (Int32.toNatClampNeg l2)) * (I 3 (Int32.toNatClampNeg (s0 + 180)))) / 1000)), .long (Int32.toInt64 (I 3 (Int32.toNatClampNeg (l2 + 90))))] (S sl p I J)))))) := by
  refine (r_sp (dk D28 3 rfl) cs180).trans ?_
  refine (r_iadd (dk D28 4 rfl)).trans ?_
  refine (r_is (L' := [.ref 2, .int l1, .int l2, .ref l3, .int (s0 + 180), .retAddr 0]) (dk D28 5 rfl) (Nat.le_of_ble_eq_true rfl) rfl).trans ?_
  refine (r_aln (dk D28 6 rfl) rfl).trans ?_
  refine (r_getR (dk D28 7 rfl) ow28 q5_9 ob_2 rfl).trans ?_
  refine (r_iln (dk D28 8 rfl) rfl).trans ?_
  refine (r_ild (dk D28 9 rfl) ar_3).trans (ck3 fun g1 => ?_)
  refine (r_is (L' := [.ref 2, .int l1, .int l2, .ref l3, .int (s0 + 180), .int (I 3 (Int32.toNatClampNeg l2))]) (dk D28 10 rfl) (Nat.le_of_ble_eq_true rfl) rfl).trans ?_
  refine (r_aln (dk D28 11 rfl) rfl).trans ?_
  refine (r_il (dk D28 12 rfl) rfl).trans ?_
  refine (r_aln (dk D28 13 rfl) rfl).trans ?_
  refine (r_getR (dk D28 14 rfl) ow28 q5_9 ob_2 rfl).trans ?_
  refine (r_il (dk D28 15 rfl) rfl).trans ?_
  refine (r_bp (dk D28 16 rfl) cb90).trans ?_
  refine (r_iadd (dk D28 17 rfl)).trans ?_
  refine (r_ild (dk D28 18 rfl) ar_3).trans (ck3 fun g2 => ?_)
  refine (r_imul (dk D28 19 rfl)).trans ?_
  refine (r_sp (dk D28 20 rfl) cs1000).trans ?_
  refine (r_idiv (dk D28 21 rfl) (by decide)).trans ?_
  refine (r_i2l (dk D28 22 rfl)).trans ?_
  refine (r_il (dk D28 23 rfl) rfl).trans ?_
  refine (r_aln (dk D28 24 rfl) rfl).trans ?_
  refine (r_getR (dk D28 25 rfl) ow28 q5_9 ob_2 rfl).trans ?_
  refine (r_il (dk D28 26 rfl) rfl).trans ?_
  refine (r_ild (dk D28 27 rfl) ar_3).trans (ck3 fun g3 => ?_)
  refine (r_imul (dk D28 28 rfl)).trans ?_
  refine (r_sp (dk D28 29 rfl) cs1000).trans ?_
  refine (r_idiv (dk D28 30 rfl) (by decide)).trans ?_
  refine (r_i2l (dk D28 31 rfl)).trans ?_
  refine (r_aln (dk D28 32 rfl) rfl).trans ?_
  refine (r_getR (dk D28 33 rfl) ow28 q5_9 ob_2 rfl).trans ?_
  refine (r_iln (dk D28 34 rfl) rfl).trans ?_
  refine (r_bp (dk D28 35 rfl) cb90).trans ?_
  refine (r_iadd (dk D28 36 rfl)).trans ?_
  refine (r_ild (dk D28 37 rfl) ar_3).trans (ck3 fun g4 => ?_)
  refine (r_i2l (dk D28 38 rfl)).trans ?_
  exact r_cv (dk D28 39 rfl) ow28 c5_35 mf1 (Nat.le_of_ble_eq_true rfl) rfl rfl (Nat.le_of_ble_eq_true rfl) (Nat.le_of_ble_eq_true rfl) hl3
theorem E28_66 {d sl : Nat} {p : Nat → Nat} {I : Nat → Nat → Int32} {J : Nat → Nat → Int64} (l1 : Int32) (l2 : Int32) {l3 : Nat} (l4 : Int32) (l5 : Int32) (hl3 : ob l3 0) : ev d 28 66 [.ref 2, .int l1, .int l2, .ref l3, .int l4, .int l5] [] (S sl p I J) = some (none, (S sl p I J)) := by
  exact r_rev (dk D28 40 rfl) rt28
set_option maxRecDepth 20000 in
theorem D29 : dOK 29 [(0, .aload_n 0, 1), (1, .getfield 9, 3), (4, .iload_n 2, 1), (5, .bipush 90, 2), (7, .iadd, 1), (8, .iaload, 1), (9, .istore 4, 2), (11, .aload_n 3, 1), (12, .iload 4, 2), (14, .aload_n 0, 1), (15, .getfield 9, 3), (18, .iload_n 1, 1), (19, .bipush 90, 2), (21, .iadd, 1), (22, .iaload, 1), (23, .imul, 1), (24, .sipush 1000, 3), (27, .idiv, 1), (28, .i2l, 1), (29, .iload 4, 2), (31, .aload_n 0, 1), (32, .getfield 9, 3), (35, .iload_n 1, 1), (36, .iaload, 1), (37, .imul, 1), (38, .sipush 1000, 3), (41, .idiv, 1), (42, .i2l, 1), (43, .aload_n 0, 1), (44, .getfield 9, 3), (47, .iload_n 2, 1), (48, .iaload, 1), (49, .i2l, 1), (50, .invokevirtual 35, 3), (53, .return_, 1)] = true := by decide +kernel
theorem E29_0 {d sl : Nat} {p : Nat → Nat} {I : Nat → Nat → Int32} {J : Nat → Nat → Int64} (a1 : Int32) (a2 : Int32) {a3 : Nat} (h3 : ob a3 0) : den (d + 1) 29 [.ref 2, .int a1, .int a2, .ref a3] (S sl p I J) = ck (ixb 630 (a2 + 90)) (ck (ixb 630 (a1 + 90)) (ck (ixb 630 a1) (ck (ixb 630 a2) (evK (d + 1) 29 53 [.ref 2, .int a1, .int a2, .ref a3, .int (I 3 (Int32.toNatClampNeg (a2 + 90)))] [] (den d 1 [.ref a3, .long (Int32.toInt64 (((I 3 (Int32.toNatClampNeg (a2 + 90))) * (I 3 (Int32.toNatClampNeg (a1 + 90)))) / 1000)), .long (Int32.toInt64 (((I 3 (Int32.toNatClampNeg (a2 + 90))) * (I 3 (Int32.toNatClampNeg a1))) / 1000)), .long (Int32.toInt64 (I 3 (Int32.toNatClampNeg a2)))] (S sl p I J)))))) := by
  refine (show den (d + 1) 29 [.ref 2, .int a1, .int a2, .ref a3] (S sl p I J) = ev (d + 1) 29 0 [.ref 2, .int a1, .int a2, .ref a3, .retAddr 0] [] (S sl p I J) from rfl).trans ?_
  refine (r_aln (dk D29 0 rfl) rfl).trans ?_
  refine (r_getR (dk D29 1 rfl) ow29 q5_9 ob_2 rfl).trans ?_
  refine (r_iln (dk D29 2 rfl) rfl).trans ?_
  refine (r_bp (dk D29 3 rfl) cb90).trans ?_
  refine (r_iadd (dk D29 4 rfl)).trans ?_
  refine (r_ild (dk D29 5 rfl) ar_3).trans (ck3 fun g1 => ?_)
  refine (r_is (L' := [.ref 2, .int a1, .int a2, .ref a3, .int (I 3 (Int32.toNatClampNeg (a2 + 90)))]) (dk D29 6 rfl) (Nat.le_of_ble_eq_true rfl) rfl).trans ?_
  refine (r_aln (dk D29 7 rfl) rfl).trans ?_
  refine (r_il (dk D29 8 rfl) rfl).trans ?_
  refine (r_aln (dk D29 9 rfl) rfl).trans ?_
  refine (r_getR (dk D29 10 rfl) ow29 q5_9 ob_2 rfl).trans ?_
  refine (r_iln (dk D29 11 rfl) rfl).trans ?_
  refine (r_bp (dk D29 12 rfl) cb90).trans ?_
  refine (r_iadd (dk D29 13 rfl)).trans ?_
  refine (r_ild (dk D29 14 rfl) ar_3).trans (ck3 fun g2 => ?_)
  refine (r_imul (dk D29 15 rfl)).trans ?_
  refine (r_sp (dk D29 16 rfl) cs1000).trans ?_
  refine (r_idiv (dk D29 17 rfl) (by decide)).trans ?_
  refine (r_i2l (dk D29 18 rfl)).trans ?_
  refine (r_il (dk D29 19 rfl) rfl).trans ?_
  refine (r_aln (dk D29 20 rfl) rfl).trans ?_
  refine (r_getR (dk D29 21 rfl) ow29 q5_9 ob_2 rfl).trans ?_
  refine (r_iln (dk D29 22 rfl) rfl).trans ?_
  refine (r_ild (dk D29 23 rfl) ar_3).trans (ck3 fun g3 => ?_)
  refine (r_imul (dk D29 24 rfl)).trans ?_
  refine (r_sp (dk D29 25 rfl) cs1000).trans ?_
  refine (r_idiv (dk D29 26 rfl) (by decide)).trans ?_
  refine (r_i2l (dk D29 27 rfl)).trans ?_
  refine (r_aln (dk D29 28 rfl) rfl).trans ?_
  refine (r_getR (dk D29 29 rfl) ow29 q5_9 ob_2 rfl).trans ?_
  refine (r_iln (dk D29 30 rfl) rfl).trans ?_
  refine (r_ild (dk D29 31 rfl) ar_3).trans (ck3 fun g4 => ?_)
  refine (r_i2l (dk D29 32 rfl)).trans ?_
  exact r_cv (dk D29 33 rfl) ow29 c5_35 mf1 (Nat.le_of_ble_eq_true rfl) rfl rfl (Nat.le_of_ble_eq_true rfl) (Nat.le_of_ble_eq_true rfl) h3
theorem E29_53 {d sl : Nat} {p : Nat → Nat} {I : Nat → Nat → Int32} {J : Nat → Nat → Int64} (l1 : Int32) (l2 : Int32) {l3 : Nat} (l4 : Int32) (hl3 : ob l3 0) : ev d 29 53 [.ref 2, .int l1, .int l2, .ref l3, .int l4] [] (S sl p I J) = some (none, (S sl p I J)) := by
  exact r_rev (dk D29 34 rfl) rt29
set_option maxRecDepth 20000 in
theorem D30 : dOK 30 [(0, .aload_n 1, 1), (1, .aload_n 2, 1), (2, .invokevirtual 41, 3), (5, .lstore 4, 2), (7, .aload_n 0, 1), (8, .getfield 9, 3), (11, .iload_n 3, 1), (12, .bipush 90, 2), (14, .iadd, 1), (15, .iaload, 1), (16, .i2l, 1), (17, .lstore 6, 2), (19, .lload 4, 2), (21, .lload 4, 2), (23, .lmul, 1), (24, .ldc2_w 45, 3), (27, .lmul, 1), (28, .lload 6, 2), (30, .lload 6, 2), (32, .lmul, 1), (33, .aload_n 1, 1), (34, .invokevirtual 47, 3), (37, .aload_n 2, 1), (38, .invokevirtual 47, 3), (41, .lmul, 1), (42, .lmul, 1), (43, .lcmp, 1), (44, .ifCond .lt 7, 3), (47, .iconst 1, 1), (48, .goto 4, 3), (51, .iconst 0, 1), (52, .ireturn, 1)] = true := by decide +kernel
theorem E30_0 {d sl : Nat} {p : Nat → Nat} {I : Nat → Nat → Int32} {J : Nat → Nat → Int64} {a1 : Nat} {a2 : Nat} (a3 : Int32) (h1 : ob a1 0) (h2 : ob a2 0) : den (d + 1) 30 [.ref 2, .ref a1, .ref a2, .int a3] (S sl p I J) = evK (d + 1) 30 5 [.ref 2, .ref a1, .ref a2, .int a3, .retAddr 0, .retAddr 0, .retAddr 0, .retAddr 0] [] (den d 4 [.ref a1, .ref a2] (S sl p I J)) := by
  refine (show den (d + 1) 30 [.ref 2, .ref a1, .ref a2, .int a3] (S sl p I J) = ev (d + 1) 30 0 [.ref 2, .ref a1, .ref a2, .int a3, .retAddr 0, .retAddr 0, .retAddr 0, .retAddr 0] [] (S sl p I J) from rfl).trans ?_
  refine (r_aln (dk D30 0 rfl) rfl).trans ?_
  refine (r_aln (dk D30 1 rfl) rfl).trans ?_
  exact r_cv (dk D30 2 rfl) ow30 c5_41 mf4 (Nat.le_of_ble_eq_true rfl) rfl rfl (Nat.le_of_ble_eq_true rfl) (Nat.le_of_ble_eq_true rfl) h1
theorem E30_5 {d sl : Nat} {p : Nat → Nat} {I : Nat → Nat → Int32} {J : Nat → Nat → Int64} {l1 : Nat} {l2 : Nat} (l3 : Int32) (s0 : Int64) (hl1 : ob l1 0) (hl2 : ob l2 0) : ev (d + 1) 30 5 [.ref 2, .ref l1, .ref l2, .int l3, .retAddr 0, .retAddr 0, .retAddr 0, .retAddr 0] [.long s0] (S sl p I J) = ck (ixb 630 (l3 + 90)) (evK (d + 1) 30 37 [.ref 2, .ref l1, .ref l2, .int l3, .long s0, .retAddr 0, .long (Int32.toInt64 (I 3 (Int32.toNatClampNeg (l3 + 90)))), .retAddr 0] [.long ((Int32.toInt64 (I 3 (Int32.toNatClampNeg (l3 + 90)))) * (Int32.toInt64 (I 3 (Int32.toNatClampNeg (l3 + 90))))), .long ((s0 * s0) * 1000000)] (den d 5 [.ref l1] (S sl p I J))) := by
  refine (r_ls (L' := [.ref 2, .ref l1, .ref l2, .int l3, .long s0, .retAddr 0, .retAddr 0, .retAddr 0]) (dk D30 3 rfl) (Nat.le_of_ble_eq_true rfl) rfl).trans ?_
  refine (r_aln (dk D30 4 rfl) rfl).trans ?_
  refine (r_getR (dk D30 5 rfl) ow30 q5_9 ob_2 rfl).trans ?_
  refine (r_iln (dk D30 6 rfl) rfl).trans ?_
  refine (r_bp (dk D30 7 rfl) cb90).trans ?_
  refine (r_iadd (dk D30 8 rfl)).trans ?_
  refine (r_ild (dk D30 9 rfl) ar_3).trans (ck3 fun g1 => ?_)
  refine (r_i2l (dk D30 10 rfl)).trans ?_
  refine (r_ls (L' := [.ref 2, .ref l1, .ref l2, .int l3, .long s0, .retAddr 0, .long (Int32.toInt64 (I 3 (Int32.toNatClampNeg (l3 + 90)))), .retAddr 0]) (dk D30 11 rfl) (Nat.le_of_ble_eq_true rfl) rfl).trans ?_
  refine (r_ll (dk D30 12 rfl) rfl).trans ?_
  refine (r_ll (dk D30 13 rfl) rfl).trans ?_
  refine (r_lmul (dk D30 14 rfl)).trans ?_
  refine (r_ld2 (dk D30 15 rfl) ow30 kk5_45).trans ?_
  refine (r_lmul (dk D30 16 rfl)).trans ?_
  refine (r_ll (dk D30 17 rfl) rfl).trans ?_
  refine (r_ll (dk D30 18 rfl) rfl).trans ?_
  refine (r_lmul (dk D30 19 rfl)).trans ?_
  refine (r_aln (dk D30 20 rfl) rfl).trans ?_
  exact r_cv (dk D30 21 rfl) ow30 c5_47 mf5 (Nat.le_of_ble_eq_true rfl) rfl rfl (Nat.le_of_ble_eq_true rfl) (Nat.le_of_ble_eq_true rfl) hl1
theorem E30_37 {d sl : Nat} {p : Nat → Nat} {I : Nat → Nat → Int32} {J : Nat → Nat → Int64} {l1 : Nat} {l2 : Nat} (l3 : Int32) (l4 : Int64) (l6 : Int64) (s0 : Int64) (s1 : Int64) (s2 : Int64) (hl1 : ob l1 0) (hl2 : ob l2 0) : ev (d + 1) 30 37 [.ref 2, .ref l1, .ref l2, .int l3, .long l4, .retAddr 0, .long l6, .retAddr 0] [.long s0, .long s1, .long s2] (S sl p I J) = evK (d + 1) 30 41 [.ref 2, .ref l1, .ref l2, .int l3, .long l4, .retAddr 0, .long l6, .retAddr 0] [.long s0, .long s1, .long s2] (den d 5 [.ref l2] (S sl p I J)) := by
  refine (r_aln (dk D30 22 rfl) rfl).trans ?_
  exact r_cv (dk D30 23 rfl) ow30 c5_47 mf5 (Nat.le_of_ble_eq_true rfl) rfl rfl (Nat.le_of_ble_eq_true rfl) (Nat.le_of_ble_eq_true rfl) hl2
theorem E30_41 {d sl : Nat} {p : Nat → Nat} {I : Nat → Nat → Int32} {J : Nat → Nat → Int64} {l1 : Nat} {l2 : Nat} (l3 : Int32) (l4 : Int64) (l6 : Int64) (s0 : Int64) (s1 : Int64) (s2 : Int64) (s3 : Int64) (hl1 : ob l1 0) (hl2 : ob l2 0) : ev d 30 41 [.ref 2, .ref l1, .ref l2, .int l3, .long l4, .retAddr 0, .long l6, .retAddr 0] [.long s0, .long s1, .long s2, .long s3] (S sl p I J) = (if s3 < (s2 * (s1 * s0)) then some (some (.int 0), (S sl p I J)) else some (some (.int 1), (S sl p I J))) := by
  refine (r_lmul (dk D30 24 rfl)).trans ?_
  refine (r_lmul (dk D30 25 rfl)).trans ?_
  refine (r_jlt (dk D30 26 rfl) (dk D30 27 rfl) rfl).trans (ite2 ?_ ?_)
  · refine (r_ic (dk D30 30 rfl) ci0).trans ?_
    exact r_rez (dk D30 31 rfl) rt30 (by decide)
  · refine (r_ic (dk D30 28 rfl) ci1).trans ?_
    refine (r_goto (L' := [.ref 2, .ref l1, .ref l2, .int l3, .long l4, .retAddr 0, .long l6, .retAddr 0]) (dk D30 29 rfl) rfl nd30_52 rfl).trans ?_
    exact r_rez (dk D30 31 rfl) rt30 (by decide)
set_option maxRecDepth 20000 in
theorem D31 : dOK 31 [(0, .aload_n 1, 1), (1, .aload_n 2, 1), (2, .invokevirtual 41, 3), (5, .lstore_n 3, 1), (6, .lload_n 3, 1), (7, .lload_n 3, 1), (8, .lmul, 1), (9, .ldc2_w 45, 3), (12, .lmul, 1), (13, .lstore 5, 2), (15, .aload_n 1, 1), (16, .invokevirtual 47, 3), (19, .aload_n 2, 1), (20, .invokevirtual 47, 3), (23, .lmul, 1), (24, .lstore 7, 2), (26, .iconst 0, 1), (27, .istore 9, 2), (29, .bipush 90, 2), (31, .istore 10, 2), (33, .iconst 0, 1), (34, .istore 11, 2), (36, .iload 11, 2), (38, .bipush 90, 2), (40, .if_icmp .ge 65, 3), (43, .iload 9, 2), (45, .iload 10, 2), (47, .if_icmp .ge 58, 3), (50, .iload 9, 2), (52, .iload 10, 2), (54, .iadd, 1), (55, .iconst 2, 1), (56, .idiv, 1), (57, .istore 12, 2), (59, .aload_n 0, 1), (60, .getfield 9, 3), (63, .iload 12, 2), (65, .bipush 90, 2), (67, .iadd, 1), (68, .iaload, 1), (69, .i2l, 1), (70, .lstore 13, 2), (72, .lload 5, 2), (74, .lload 13, 2), (76, .lload 13, 2), (78, .lmul, 1), (79, .lload 7, 2), (81, .lmul, 1), (82, .lcmp, 1), (83, .ifCond .lt 10, 3), (86, .iload 12, 2), (88, .istore 10, 2), (90, .goto 9, 3), (93, .iload 12, 2), (95, .iconst 1, 1), (96, .iadd, 1), (97, .istore 9, 2), (99, .iinc 11 1, 3), (102, .goto (-66), 3), (105, .iload 10, 2), (107, .ireturn, 1)] = true := by decide +kernel
theorem E31_0 {d sl : Nat} {p : Nat → Nat} {I : Nat → Nat → Int32} {J : Nat → Nat → Int64} {a1 : Nat} {a2 : Nat} (h1 : ob a1 0) (h2 : ob a2 0) : den (d + 1) 31 [.ref 2, .ref a1, .ref a2] (S sl p I J) = evK (d + 1) 31 5 [.ref 2, .ref a1, .ref a2, .retAddr 0, .retAddr 0, .retAddr 0, .retAddr 0, .retAddr 0, .retAddr 0, .retAddr 0, .retAddr 0, .retAddr 0, .retAddr 0, .retAddr 0, .retAddr 0] [] (den d 4 [.ref a1, .ref a2] (S sl p I J)) := by
  refine (show den (d + 1) 31 [.ref 2, .ref a1, .ref a2] (S sl p I J) = ev (d + 1) 31 0 [.ref 2, .ref a1, .ref a2, .retAddr 0, .retAddr 0, .retAddr 0, .retAddr 0, .retAddr 0, .retAddr 0, .retAddr 0, .retAddr 0, .retAddr 0, .retAddr 0, .retAddr 0, .retAddr 0] [] (S sl p I J) from rfl).trans ?_
  refine (r_aln (dk D31 0 rfl) rfl).trans ?_
  refine (r_aln (dk D31 1 rfl) rfl).trans ?_
  exact r_cv (dk D31 2 rfl) ow31 c5_41 mf4 (Nat.le_of_ble_eq_true rfl) rfl rfl (Nat.le_of_ble_eq_true rfl) (Nat.le_of_ble_eq_true rfl) h1
theorem E31_5 {d sl : Nat} {p : Nat → Nat} {I : Nat → Nat → Int32} {J : Nat → Nat → Int64} {l1 : Nat} {l2 : Nat} (s0 : Int64) (hl1 : ob l1 0) (hl2 : ob l2 0) : ev (d + 1) 31 5 [.ref 2, .ref l1, .ref l2, .retAddr 0, .retAddr 0, .retAddr 0, .retAddr 0, .retAddr 0, .retAddr 0, .retAddr 0, .retAddr 0, .retAddr 0, .retAddr 0, .retAddr 0, .retAddr 0] [.long s0] (S sl p I J) = evK (d + 1) 31 19 [.ref 2, .ref l1, .ref l2, .long s0, .retAddr 0, .long ((s0 * s0) * 1000000), .retAddr 0, .retAddr 0, .retAddr 0, .retAddr 0, .retAddr 0, .retAddr 0, .retAddr 0, .retAddr 0, .retAddr 0] [] (den d 5 [.ref l1] (S sl p I J)) := by
  refine (r_lsn (L' := [.ref 2, .ref l1, .ref l2, .long s0, .retAddr 0, .retAddr 0, .retAddr 0, .retAddr 0, .retAddr 0, .retAddr 0, .retAddr 0, .retAddr 0, .retAddr 0, .retAddr 0, .retAddr 0]) (dk D31 3 rfl) (Nat.le_of_ble_eq_true rfl) rfl).trans ?_
  refine (r_lln (dk D31 4 rfl) rfl).trans ?_
  refine (r_lln (dk D31 5 rfl) rfl).trans ?_
  refine (r_lmul (dk D31 6 rfl)).trans ?_
  refine (r_ld2 (dk D31 7 rfl) ow31 kk5_45).trans ?_
  refine (r_lmul (dk D31 8 rfl)).trans ?_
  refine (r_ls (L' := [.ref 2, .ref l1, .ref l2, .long s0, .retAddr 0, .long ((s0 * s0) * 1000000), .retAddr 0, .retAddr 0, .retAddr 0, .retAddr 0, .retAddr 0, .retAddr 0, .retAddr 0, .retAddr 0, .retAddr 0]) (dk D31 9 rfl) (Nat.le_of_ble_eq_true rfl) rfl).trans ?_
  refine (r_aln (dk D31 10 rfl) rfl).trans ?_
  exact r_cv (dk D31 11 rfl) ow31 c5_47 mf5 (Nat.le_of_ble_eq_true rfl) rfl rfl (Nat.le_of_ble_eq_true rfl) (Nat.le_of_ble_eq_true rfl) hl1
theorem E31_19 {d sl : Nat} {p : Nat → Nat} {I : Nat → Nat → Int32} {J : Nat → Nat → Int64} {l1 : Nat} {l2 : Nat} (l3 : Int64) (l5 : Int64) (s0 : Int64) (hl1 : ob l1 0) (hl2 : ob l2 0) : ev (d + 1) 31 19 [.ref 2, .ref l1, .ref l2, .long l3, .retAddr 0, .long l5, .retAddr 0, .retAddr 0, .retAddr 0, .retAddr 0, .retAddr 0, .retAddr 0, .retAddr 0, .retAddr 0, .retAddr 0] [.long s0] (S sl p I J) = evK (d + 1) 31 23 [.ref 2, .ref l1, .ref l2, .long l3, .retAddr 0, .long l5, .retAddr 0, .retAddr 0, .retAddr 0, .retAddr 0, .retAddr 0, .retAddr 0, .retAddr 0, .retAddr 0, .retAddr 0] [.long s0] (den d 5 [.ref l2] (S sl p I J)) := by
  refine (r_aln (dk D31 12 rfl) rfl).trans ?_
  exact r_cv (dk D31 13 rfl) ow31 c5_47 mf5 (Nat.le_of_ble_eq_true rfl) rfl rfl (Nat.le_of_ble_eq_true rfl) (Nat.le_of_ble_eq_true rfl) hl2
theorem E31_23 {d sl : Nat} {p : Nat → Nat} {I : Nat → Nat → Int32} {J : Nat → Nat → Int64} {l1 : Nat} {l2 : Nat} (l3 : Int64) (l5 : Int64) (s0 : Int64) (s1 : Int64) (hl1 : ob l1 0) (hl2 : ob l2 0) : ev d 31 23 [.ref 2, .ref l1, .ref l2, .long l3, .retAddr 0, .long l5, .retAddr 0, .retAddr 0, .retAddr 0, .retAddr 0, .retAddr 0, .retAddr 0, .retAddr 0, .retAddr 0, .retAddr 0] [.long s0, .long s1] (S sl p I J) = ev d 31 36 [.ref 2, .ref l1, .ref l2, .long l3, .retAddr 0, .long l5, .retAddr 0, .long (s1 * s0), .retAddr 0, .int 0, .int 90, .int 0, .retAddr 0, .retAddr 0, .retAddr 0] [] (S sl p I J) := by
  refine (r_lmul (dk D31 14 rfl)).trans ?_
  refine (r_ls (L' := [.ref 2, .ref l1, .ref l2, .long l3, .retAddr 0, .long l5, .retAddr 0, .long (s1 * s0), .retAddr 0, .retAddr 0, .retAddr 0, .retAddr 0, .retAddr 0, .retAddr 0, .retAddr 0]) (dk D31 15 rfl) (Nat.le_of_ble_eq_true rfl) rfl).trans ?_
  refine (r_ic (dk D31 16 rfl) ci0).trans ?_
  refine (r_is (L' := [.ref 2, .ref l1, .ref l2, .long l3, .retAddr 0, .long l5, .retAddr 0, .long (s1 * s0), .retAddr 0, .int 0, .retAddr 0, .retAddr 0, .retAddr 0, .retAddr 0, .retAddr 0]) (dk D31 17 rfl) (Nat.le_of_ble_eq_true rfl) rfl).trans ?_
  refine (r_bp (dk D31 18 rfl) cb90).trans ?_
  refine (r_is (L' := [.ref 2, .ref l1, .ref l2, .long l3, .retAddr 0, .long l5, .retAddr 0, .long (s1 * s0), .retAddr 0, .int 0, .int 90, .retAddr 0, .retAddr 0, .retAddr 0, .retAddr 0]) (dk D31 19 rfl) (Nat.le_of_ble_eq_true rfl) rfl).trans ?_
  refine (r_ic (dk D31 20 rfl) ci0).trans ?_
  refine (r_is (L' := [.ref 2, .ref l1, .ref l2, .long l3, .retAddr 0, .long l5, .retAddr 0, .long (s1 * s0), .retAddr 0, .int 0, .int 90, .int 0, .retAddr 0, .retAddr 0, .retAddr 0]) (dk D31 21 rfl) (Nat.le_of_ble_eq_true rfl) rfl).trans ?_
  exact rfl
theorem E31_36 {d sl : Nat} {p : Nat → Nat} {I : Nat → Nat → Int32} {J : Nat → Nat → Int64} {l1 : Nat} {l2 : Nat} (l3 : Int64) (l5 : Int64) (l7 : Int64) (l9 : Int32) (l10 : Int32) (l11 : Int32) (hl1 : ob l1 0) (hl2 : ob l2 0) : ev d 31 36 [.ref 2, .ref l1, .ref l2, .long l3, .retAddr 0, .long l5, .retAddr 0, .long l7, .retAddr 0, .int l9, .int l10, .int l11, .retAddr 0, .retAddr 0, .retAddr 0] [] (S sl p I J) = (if l11 < 90 then (if l9 < l10 then ck (ixb 630 (((l9 + l10) / 2) + 90)) ((if l5 < (((Int32.toInt64 (I 3 (Int32.toNatClampNeg (((l9 + l10) / 2) + 90)))) * (Int32.toInt64 (I 3 (Int32.toNatClampNeg (((l9 + l10) / 2) + 90))))) * l7) then ev d 31 36 [.ref 2, .ref l1, .ref l2, .long l3, .retAddr 0, .long l5, .retAddr 0, .long l7, .retAddr 0, .int (((l9 + l10) / 2) + 1), .int l10, .int (l11 + 1), .retAddr 0, .retAddr 0, .retAddr 0] [] (S sl p I J) else ev d 31 36 [.ref 2, .ref l1, .ref l2, .long l3, .retAddr 0, .long l5, .retAddr 0, .long l7, .retAddr 0, .int l9, .int ((l9 + l10) / 2), .int (l11 + 1), .retAddr 0, .retAddr 0, .retAddr 0] [] (S sl p I J))) else some (some (.int l10), (S sl p I J))) else some (some (.int l10), (S sl p I J))) := by
  refine (r_il (dk D31 22 rfl) rfl).trans ?_
  refine (r_bp (dk D31 23 rfl) cb90).trans ?_
  refine (r_ge (dk D31 24 rfl) rfl).trans (ite2 ?_ ?_)
  · refine (r_il (dk D31 25 rfl) rfl).trans ?_
    refine (r_il (dk D31 26 rfl) rfl).trans ?_
    refine (r_ge (dk D31 27 rfl) rfl).trans (ite2 ?_ ?_)
    · refine (r_il (dk D31 28 rfl) rfl).trans ?_
      refine (r_il (dk D31 29 rfl) rfl).trans ?_
      refine (r_iadd (dk D31 30 rfl)).trans ?_
      refine (r_ic (dk D31 31 rfl) ci2).trans ?_
      refine (r_idiv (dk D31 32 rfl) (by decide)).trans ?_
      refine (r_is (L' := [.ref 2, .ref l1, .ref l2, .long l3, .retAddr 0, .long l5, .retAddr 0, .long l7, .retAddr 0, .int l9, .int l10, .int l11, .int ((l9 + l10) / 2), .retAddr 0, .retAddr 0]) (dk D31 33 rfl) (Nat.le_of_ble_eq_true rfl) rfl).trans ?_
      refine (r_aln (dk D31 34 rfl) rfl).trans ?_
      refine (r_getR (dk D31 35 rfl) ow31 q5_9 ob_2 rfl).trans ?_
      refine (r_il (dk D31 36 rfl) rfl).trans ?_
      refine (r_bp (dk D31 37 rfl) cb90).trans ?_
      refine (r_iadd (dk D31 38 rfl)).trans ?_
      refine (r_ild (dk D31 39 rfl) ar_3).trans (ck3 fun g1 => ?_)
      refine (r_i2l (dk D31 40 rfl)).trans ?_
      refine (r_ls (L' := [.ref 2, .ref l1, .ref l2, .long l3, .retAddr 0, .long l5, .retAddr 0, .long l7, .retAddr 0, .int l9, .int l10, .int l11, .int ((l9 + l10) / 2), .long (Int32.toInt64 (I 3 (Int32.toNatClampNeg (((l9 + l10) / 2) + 90)))), .retAddr 0]) (dk D31 41 rfl) (Nat.le_of_ble_eq_true rfl) rfl).trans ?_
      refine (r_ll (dk D31 42 rfl) rfl).trans ?_
      refine (r_ll (dk D31 43 rfl) rfl).trans ?_
      refine (r_ll (dk D31 44 rfl) rfl).trans ?_
      refine (r_lmul (dk D31 45 rfl)).trans ?_
      refine (r_ll (dk D31 46 rfl) rfl).trans ?_
      refine (r_lmul (dk D31 47 rfl)).trans ?_
      refine (r_jlt (dk D31 48 rfl) (dk D31 49 rfl) rfl).trans (ite2 ?_ ?_)
      · refine (r_il (dk D31 53 rfl) rfl).trans ?_
        refine (r_ic (dk D31 54 rfl) ci1).trans ?_
        refine (r_iadd (dk D31 55 rfl)).trans ?_
        refine (r_is (L' := [.ref 2, .ref l1, .ref l2, .long l3, .retAddr 0, .long l5, .retAddr 0, .long l7, .retAddr 0, .int (((l9 + l10) / 2) + 1), .int l10, .int l11, .int ((l9 + l10) / 2), .long (Int32.toInt64 (I 3 (Int32.toNatClampNeg (((l9 + l10) / 2) + 90)))), .retAddr 0]) (dk D31 56 rfl) (Nat.le_of_ble_eq_true rfl) rfl).trans ?_
        refine (r_inc (L' := [.ref 2, .ref l1, .ref l2, .long l3, .retAddr 0, .long l5, .retAddr 0, .long l7, .retAddr 0, .int (((l9 + l10) / 2) + 1), .int l10, .int (l11 + 1), .int ((l9 + l10) / 2), .long (Int32.toInt64 (I 3 (Int32.toNatClampNeg (((l9 + l10) / 2) + 90)))), .retAddr 0]) (dk D31 57 rfl) rfl rfl ci1 (Nat.le_of_ble_eq_true rfl) rfl).trans ?_
        refine (r_goto (L' := [.ref 2, .ref l1, .ref l2, .long l3, .retAddr 0, .long l5, .retAddr 0, .long l7, .retAddr 0, .int (((l9 + l10) / 2) + 1), .int l10, .int (l11 + 1), .retAddr 0, .retAddr 0, .retAddr 0]) (dk D31 58 rfl) rfl nd31_36 rfl).trans ?_
        exact rfl
      · refine (r_il (dk D31 50 rfl) rfl).trans ?_
        refine (r_is (L' := [.ref 2, .ref l1, .ref l2, .long l3, .retAddr 0, .long l5, .retAddr 0, .long l7, .retAddr 0, .int l9, .int ((l9 + l10) / 2), .int l11, .int ((l9 + l10) / 2), .long (Int32.toInt64 (I 3 (Int32.toNatClampNeg (((l9 + l10) / 2) + 90)))), .retAddr 0]) (dk D31 51 rfl) (Nat.le_of_ble_eq_true rfl) rfl).trans ?_
        refine (r_goto (L' := [.ref 2, .ref l1, .ref l2, .long l3, .retAddr 0, .long l5, .retAddr 0, .long l7, .retAddr 0, .int l9, .int ((l9 + l10) / 2), .int l11, .int ((l9 + l10) / 2), .long (Int32.toInt64 (I 3 (Int32.toNatClampNeg (((l9 + l10) / 2) + 90)))), .retAddr 0]) (dk D31 52 rfl) rfl nd31_99 rfl).trans ?_
        refine (r_inc (L' := [.ref 2, .ref l1, .ref l2, .long l3, .retAddr 0, .long l5, .retAddr 0, .long l7, .retAddr 0, .int l9, .int ((l9 + l10) / 2), .int (l11 + 1), .int ((l9 + l10) / 2), .long (Int32.toInt64 (I 3 (Int32.toNatClampNeg (((l9 + l10) / 2) + 90)))), .retAddr 0]) (dk D31 57 rfl) rfl rfl ci1 (Nat.le_of_ble_eq_true rfl) rfl).trans ?_
        refine (r_goto (L' := [.ref 2, .ref l1, .ref l2, .long l3, .retAddr 0, .long l5, .retAddr 0, .long l7, .retAddr 0, .int l9, .int ((l9 + l10) / 2), .int (l11 + 1), .retAddr 0, .retAddr 0, .retAddr 0]) (dk D31 58 rfl) rfl nd31_36 rfl).trans ?_
        exact rfl
    · refine (r_il (dk D31 59 rfl) rfl).trans ?_
      exact r_ret (dk D31 60 rfl) rt31
  · refine (r_il (dk D31 59 rfl) rfl).trans ?_
    exact r_ret (dk D31 60 rfl) rt31
set_option maxRecDepth 20000 in
theorem D32 : dOK 32 [(0, .iconst (-1), 1), (1, .istore 4, 2), (3, .bipush 91, 2), (5, .istore 5, 2), (7, .iconst 0, 1), (8, .istore 6, 2), (10, .iload 6, 2), (12, .iload_n 3, 1), (13, .if_icmp .ge 42, 3), (16, .iload 6, 2), (18, .aload_n 2, 1), (19, .arraylength, 1), (20, .if_icmp .ge 35, 3), (23, .aload_n 0, 1), (24, .aload_n 1, 1), (25, .aload_n 2, 1), (26, .iload 6, 2), (28, .aaload, 1), (29, .invokevirtual 51, 3), (32, .istore 7, 2), (34, .iload 7, 2), (36, .iload 5, 2), (38, .if_icmp .ge 11, 3), (41, .iload 7, 2), (43, .istore 5, 2), (45, .iload 6, 2), (47, .istore 4, 2), (49, .iinc 6 1, 3), (52, .goto (-42), 3), (55, .iload 4, 2), (57, .ireturn, 1)] = true := by decide +kernel
theorem E32a_0 {d sl : Nat} {p : Nat → Nat} {I : Nat → Nat → Int32} {J : Nat → Nat → Int64} {a1 : Nat} (a3 : Int32) (h1 : ob a1 0) : den d 32 [.ref 2, .ref a1, .ref 14, .int a3] (S sl p I J) = ev d 32 10 [.ref 2, .ref a1, .ref 14, .int a3, .int (-1), .int 91, .int 0, .retAddr 0] [] (S sl p I J) := by
  refine (show den d 32 [.ref 2, .ref a1, .ref 14, .int a3] (S sl p I J) = ev d 32 0 [.ref 2, .ref a1, .ref 14, .int a3, .retAddr 0, .retAddr 0, .retAddr 0, .retAddr 0] [] (S sl p I J) from rfl).trans ?_
  refine (r_ic (dk D32 0 rfl) cim1).trans ?_
  refine (r_is (L' := [.ref 2, .ref a1, .ref 14, .int a3, .int (-1), .retAddr 0, .retAddr 0, .retAddr 0]) (dk D32 1 rfl) (Nat.le_of_ble_eq_true rfl) rfl).trans ?_
  refine (r_bp (dk D32 2 rfl) cb91).trans ?_
  refine (r_is (L' := [.ref 2, .ref a1, .ref 14, .int a3, .int (-1), .int 91, .retAddr 0, .retAddr 0]) (dk D32 3 rfl) (Nat.le_of_ble_eq_true rfl) rfl).trans ?_
  refine (r_ic (dk D32 4 rfl) ci0).trans ?_
  refine (r_is (L' := [.ref 2, .ref a1, .ref 14, .int a3, .int (-1), .int 91, .int 0, .retAddr 0]) (dk D32 5 rfl) (Nat.le_of_ble_eq_true rfl) rfl).trans ?_
  exact rfl
theorem E32a_10 {d sl : Nat} {p : Nat → Nat} {I : Nat → Nat → Int32} {J : Nat → Nat → Int64} {l1 : Nat} (l3 : Int32) (l4 : Int32) (l5 : Int32) (l6 : Int32) (hl1 : ob l1 0) : ev (d + 1) 32 10 [.ref 2, .ref l1, .ref 14, .int l3, .int l4, .int l5, .int l6, .retAddr 0] [] (S sl p I J) = (if l6 < l3 then (if l6 < (nI 30) then ck (ixb 30 l6) (evK (d + 1) 32 32 [.ref 2, .ref l1, .ref 14, .int l3, .int l4, .int l5, .int l6, .retAddr 0] [] (den d 31 [.ref 2, .ref l1, .ref (800 + (Int32.toNatClampNeg l6))] (S sl p I J))) else some (some (.int l4), (S sl p I J))) else some (some (.int l4), (S sl p I J))) := by
  refine (r_il (dk D32 6 rfl) rfl).trans ?_
  refine (r_iln (dk D32 7 rfl) rfl).trans ?_
  refine (r_ge (dk D32 8 rfl) rfl).trans (ite2 ?_ ?_)
  · refine (r_il (dk D32 9 rfl) rfl).trans ?_
    refine (r_aln (dk D32 10 rfl) rfl).trans ?_
    refine (r_len (dk D32 11 rfl) ar_14 (by decide)).trans ?_
    refine (r_ge (dk D32 12 rfl) rfl).trans (ite2 ?_ ?_)
    · refine (r_aln (dk D32 13 rfl) rfl).trans ?_
      refine (r_aln (dk D32 14 rfl) rfl).trans ?_
      refine (r_aln (dk D32 15 rfl) rfl).trans ?_
      refine (r_il (dk D32 16 rfl) rfl).trans ?_
      refine (r_ald (dk D32 17 rfl) ar_14 (by decide) rfA14).trans (ck3 fun g1 => ?_)
      exact r_cv (dk D32 18 rfl) ow32 c5_51 mf31 (Nat.le_of_ble_eq_true rfl) rfl rfl (Nat.le_of_ble_eq_true rfl) (Nat.le_of_ble_eq_true rfl) ob_2
    · refine (r_il (dk D32 29 rfl) rfl).trans ?_
      exact r_ret (dk D32 30 rfl) rt32
  · refine (r_il (dk D32 29 rfl) rfl).trans ?_
    exact r_ret (dk D32 30 rfl) rt32
theorem E32a_32 {d sl : Nat} {p : Nat → Nat} {I : Nat → Nat → Int32} {J : Nat → Nat → Int64} {l1 : Nat} (l3 : Int32) (l4 : Int32) (l5 : Int32) (l6 : Int32) (s0 : Int32) (hl1 : ob l1 0) : ev d 32 32 [.ref 2, .ref l1, .ref 14, .int l3, .int l4, .int l5, .int l6, .retAddr 0] [.int s0] (S sl p I J) = (if s0 < l5 then ev d 32 10 [.ref 2, .ref l1, .ref 14, .int l3, .int l6, .int s0, .int (l6 + 1), .retAddr 0] [] (S sl p I J) else ev d 32 10 [.ref 2, .ref l1, .ref 14, .int l3, .int l4, .int l5, .int (l6 + 1), .retAddr 0] [] (S sl p I J)) := by
  refine (r_is (L' := [.ref 2, .ref l1, .ref 14, .int l3, .int l4, .int l5, .int l6, .int s0]) (dk D32 19 rfl) (Nat.le_of_ble_eq_true rfl) rfl).trans ?_
  refine (r_il (dk D32 20 rfl) rfl).trans ?_
  refine (r_il (dk D32 21 rfl) rfl).trans ?_
  refine (r_ge (dk D32 22 rfl) rfl).trans (ite2 ?_ ?_)
  · refine (r_il (dk D32 23 rfl) rfl).trans ?_
    refine (r_is (L' := [.ref 2, .ref l1, .ref 14, .int l3, .int l4, .int s0, .int l6, .int s0]) (dk D32 24 rfl) (Nat.le_of_ble_eq_true rfl) rfl).trans ?_
    refine (r_il (dk D32 25 rfl) rfl).trans ?_
    refine (r_is (L' := [.ref 2, .ref l1, .ref 14, .int l3, .int l6, .int s0, .int l6, .int s0]) (dk D32 26 rfl) (Nat.le_of_ble_eq_true rfl) rfl).trans ?_
    refine (r_inc (L' := [.ref 2, .ref l1, .ref 14, .int l3, .int l6, .int s0, .int (l6 + 1), .int s0]) (dk D32 27 rfl) rfl rfl ci1 (Nat.le_of_ble_eq_true rfl) rfl).trans ?_
    refine (r_goto (L' := [.ref 2, .ref l1, .ref 14, .int l3, .int l6, .int s0, .int (l6 + 1), .retAddr 0]) (dk D32 28 rfl) rfl nd32_10 rfl).trans ?_
    exact rfl
  · refine (r_inc (L' := [.ref 2, .ref l1, .ref 14, .int l3, .int l4, .int l5, .int (l6 + 1), .int s0]) (dk D32 27 rfl) rfl rfl ci1 (Nat.le_of_ble_eq_true rfl) rfl).trans ?_
    refine (r_goto (L' := [.ref 2, .ref l1, .ref 14, .int l3, .int l4, .int l5, .int (l6 + 1), .retAddr 0]) (dk D32 28 rfl) rfl nd32_10 rfl).trans ?_
    exact rfl
theorem E32b_0 {d sl : Nat} {p : Nat → Nat} {I : Nat → Nat → Int32} {J : Nat → Nat → Int64} {a1 : Nat} (a3 : Int32) (h1 : ob a1 0) : den d 32 [.ref 2, .ref a1, .ref 24, .int a3] (S sl p I J) = ev d 32 10 [.ref 2, .ref a1, .ref 24, .int a3, .int (-1), .int 91, .int 0, .retAddr 0] [] (S sl p I J) := by
  refine (show den d 32 [.ref 2, .ref a1, .ref 24, .int a3] (S sl p I J) = ev d 32 0 [.ref 2, .ref a1, .ref 24, .int a3, .retAddr 0, .retAddr 0, .retAddr 0, .retAddr 0] [] (S sl p I J) from rfl).trans ?_
  refine (r_ic (dk D32 0 rfl) cim1).trans ?_
  refine (r_is (L' := [.ref 2, .ref a1, .ref 24, .int a3, .int (-1), .retAddr 0, .retAddr 0, .retAddr 0]) (dk D32 1 rfl) (Nat.le_of_ble_eq_true rfl) rfl).trans ?_
  refine (r_bp (dk D32 2 rfl) cb91).trans ?_
  refine (r_is (L' := [.ref 2, .ref a1, .ref 24, .int a3, .int (-1), .int 91, .retAddr 0, .retAddr 0]) (dk D32 3 rfl) (Nat.le_of_ble_eq_true rfl) rfl).trans ?_
  refine (r_ic (dk D32 4 rfl) ci0).trans ?_
  refine (r_is (L' := [.ref 2, .ref a1, .ref 24, .int a3, .int (-1), .int 91, .int 0, .retAddr 0]) (dk D32 5 rfl) (Nat.le_of_ble_eq_true rfl) rfl).trans ?_
  exact rfl
theorem E32b_10 {d sl : Nat} {p : Nat → Nat} {I : Nat → Nat → Int32} {J : Nat → Nat → Int64} {l1 : Nat} (l3 : Int32) (l4 : Int32) (l5 : Int32) (l6 : Int32) (hl1 : ob l1 0) : ev (d + 1) 32 10 [.ref 2, .ref l1, .ref 24, .int l3, .int l4, .int l5, .int l6, .retAddr 0] [] (S sl p I J) = (if l6 < l3 then (if l6 < (nI 30) then ck (ixb 30 l6) (evK (d + 1) 32 32 [.ref 2, .ref l1, .ref 24, .int l3, .int l4, .int l5, .int l6, .retAddr 0] [] (den d 31 [.ref 2, .ref l1, .ref (900 + (Int32.toNatClampNeg l6))] (S sl p I J))) else some (some (.int l4), (S sl p I J))) else some (some (.int l4), (S sl p I J))) := by
  refine (r_il (dk D32 6 rfl) rfl).trans ?_
  refine (r_iln (dk D32 7 rfl) rfl).trans ?_
  refine (r_ge (dk D32 8 rfl) rfl).trans (ite2 ?_ ?_)
  · refine (r_il (dk D32 9 rfl) rfl).trans ?_
    refine (r_aln (dk D32 10 rfl) rfl).trans ?_
    refine (r_len (dk D32 11 rfl) ar_24 (by decide)).trans ?_
    refine (r_ge (dk D32 12 rfl) rfl).trans (ite2 ?_ ?_)
    · refine (r_aln (dk D32 13 rfl) rfl).trans ?_
      refine (r_aln (dk D32 14 rfl) rfl).trans ?_
      refine (r_aln (dk D32 15 rfl) rfl).trans ?_
      refine (r_il (dk D32 16 rfl) rfl).trans ?_
      refine (r_ald (dk D32 17 rfl) ar_24 (by decide) rfA24).trans (ck3 fun g1 => ?_)
      exact r_cv (dk D32 18 rfl) ow32 c5_51 mf31 (Nat.le_of_ble_eq_true rfl) rfl rfl (Nat.le_of_ble_eq_true rfl) (Nat.le_of_ble_eq_true rfl) ob_2
    · refine (r_il (dk D32 29 rfl) rfl).trans ?_
      exact r_ret (dk D32 30 rfl) rt32
  · refine (r_il (dk D32 29 rfl) rfl).trans ?_
    exact r_ret (dk D32 30 rfl) rt32
theorem E32b_32 {d sl : Nat} {p : Nat → Nat} {I : Nat → Nat → Int32} {J : Nat → Nat → Int64} {l1 : Nat} (l3 : Int32) (l4 : Int32) (l5 : Int32) (l6 : Int32) (s0 : Int32) (hl1 : ob l1 0) : ev d 32 32 [.ref 2, .ref l1, .ref 24, .int l3, .int l4, .int l5, .int l6, .retAddr 0] [.int s0] (S sl p I J) = (if s0 < l5 then ev d 32 10 [.ref 2, .ref l1, .ref 24, .int l3, .int l6, .int s0, .int (l6 + 1), .retAddr 0] [] (S sl p I J) else ev d 32 10 [.ref 2, .ref l1, .ref 24, .int l3, .int l4, .int l5, .int (l6 + 1), .retAddr 0] [] (S sl p I J)) := by
  refine (r_is (L' := [.ref 2, .ref l1, .ref 24, .int l3, .int l4, .int l5, .int l6, .int s0]) (dk D32 19 rfl) (Nat.le_of_ble_eq_true rfl) rfl).trans ?_
  refine (r_il (dk D32 20 rfl) rfl).trans ?_
  refine (r_il (dk D32 21 rfl) rfl).trans ?_
  refine (r_ge (dk D32 22 rfl) rfl).trans (ite2 ?_ ?_)
  · refine (r_il (dk D32 23 rfl) rfl).trans ?_
    refine (r_is (L' := [.ref 2, .ref l1, .ref 24, .int l3, .int l4, .int s0, .int l6, .int s0]) (dk D32 24 rfl) (Nat.le_of_ble_eq_true rfl) rfl).trans ?_
    refine (r_il (dk D32 25 rfl) rfl).trans ?_
    refine (r_is (L' := [.ref 2, .ref l1, .ref 24, .int l3, .int l6, .int s0, .int l6, .int s0]) (dk D32 26 rfl) (Nat.le_of_ble_eq_true rfl) rfl).trans ?_
    refine (r_inc (L' := [.ref 2, .ref l1, .ref 24, .int l3, .int l6, .int s0, .int (l6 + 1), .int s0]) (dk D32 27 rfl) rfl rfl ci1 (Nat.le_of_ble_eq_true rfl) rfl).trans ?_
    refine (r_goto (L' := [.ref 2, .ref l1, .ref 24, .int l3, .int l6, .int s0, .int (l6 + 1), .retAddr 0]) (dk D32 28 rfl) rfl nd32_10 rfl).trans ?_
    exact rfl
  · refine (r_inc (L' := [.ref 2, .ref l1, .ref 24, .int l3, .int l4, .int l5, .int (l6 + 1), .int s0]) (dk D32 27 rfl) rfl rfl ci1 (Nat.le_of_ble_eq_true rfl) rfl).trans ?_
    refine (r_goto (L' := [.ref 2, .ref l1, .ref 24, .int l3, .int l4, .int l5, .int (l6 + 1), .retAddr 0]) (dk D32 28 rfl) rfl nd32_10 rfl).trans ?_
    exact rfl
set_option maxRecDepth 20000 in
theorem D33 : dOK 33 [(0, .iconst 0, 1), (1, .istore_n 2, 1), (2, .ldc2_w 55, 3), (5, .lstore_n 3, 1), (6, .iconst 0, 1), (7, .istore 5, 2), (9, .iload 5, 2), (11, .sipush 360, 3), (14, .if_icmp .ge 54, 3), (17, .aload_n 1, 1), (18, .getfield 57, 3), (21, .aload_n 0, 1), (22, .getfield 9, 3), (25, .iload 5, 2), (27, .bipush 90, 2), (29, .iadd, 1), (30, .iaload, 1), (31, .i2l, 1), (32, .lmul, 1), (33, .aload_n 1, 1), (34, .getfield 61, 3), (37, .aload_n 0, 1), (38, .getfield 9, 3), (41, .iload 5, 2), (43, .iaload, 1), (44, .i2l, 1), (45, .lmul, 1), (46, .ladd, 1), (47, .lstore 6, 2), (49, .lload 6, 2), (51, .lload_n 3, 1), (52, .lcmp, 1), (53, .ifCond .le 9, 3), (56, .lload 6, 2), (58, .lstore_n 3, 1), (59, .iload 5, 2), (61, .istore_n 2, 1), (62, .iinc 5 1, 3), (65, .goto (-56), 3), (68, .iload_n 2, 1), (69, .ireturn, 1)] = true := by decide +kernel
theorem E33_0 {d sl : Nat} {p : Nat → Nat} {I : Nat → Nat → Int32} {J : Nat → Nat → Int64} {a1 : Nat} (h1 : ob a1 0) : den d 33 [.ref 2, .ref a1] (S sl p I J) = ev d 33 9 [.ref 2, .ref a1, .int 0, .long (-1), .retAddr 0, .int 0, .retAddr 0, .retAddr 0] [] (S sl p I J) := by
  refine (show den d 33 [.ref 2, .ref a1] (S sl p I J) = ev d 33 0 [.ref 2, .ref a1, .retAddr 0, .retAddr 0, .retAddr 0, .retAddr 0, .retAddr 0, .retAddr 0] [] (S sl p I J) from rfl).trans ?_
  refine (r_ic (dk D33 0 rfl) ci0).trans ?_
  refine (r_isn (L' := [.ref 2, .ref a1, .int 0, .retAddr 0, .retAddr 0, .retAddr 0, .retAddr 0, .retAddr 0]) (dk D33 1 rfl) (Nat.le_of_ble_eq_true rfl) rfl).trans ?_
  refine (r_ld2 (dk D33 2 rfl) ow33 kk5_55).trans ?_
  refine (r_lsn (L' := [.ref 2, .ref a1, .int 0, .long (-1), .retAddr 0, .retAddr 0, .retAddr 0, .retAddr 0]) (dk D33 3 rfl) (Nat.le_of_ble_eq_true rfl) rfl).trans ?_
  refine (r_ic (dk D33 4 rfl) ci0).trans ?_
  refine (r_is (L' := [.ref 2, .ref a1, .int 0, .long (-1), .retAddr 0, .int 0, .retAddr 0, .retAddr 0]) (dk D33 5 rfl) (Nat.le_of_ble_eq_true rfl) rfl).trans ?_
  exact rfl
theorem E33_9 {d sl : Nat} {p : Nat → Nat} {I : Nat → Nat → Int32} {J : Nat → Nat → Int64} {l1 : Nat} (l2 : Int32) (l3 : Int64) (l5 : Int32) (hl1 : ob l1 0) : ev d 33 9 [.ref 2, .ref l1, .int l2, .long l3, .retAddr 0, .int l5, .retAddr 0, .retAddr 0] [] (S sl p I J) = (if l5 < 360 then ck (ixb 630 (l5 + 90)) (ck (ixb 630 l5) ((if (((J l1 0) * (Int32.toInt64 (I 3 (Int32.toNatClampNeg (l5 + 90))))) + ((J l1 1) * (Int32.toInt64 (I 3 (Int32.toNatClampNeg l5))))) ≤ l3 then ev d 33 9 [.ref 2, .ref l1, .int l2, .long l3, .retAddr 0, .int (l5 + 1), .retAddr 0, .retAddr 0] [] (S sl p I J) else ev d 33 9 [.ref 2, .ref l1, .int l5, .long (((J l1 0) * (Int32.toInt64 (I 3 (Int32.toNatClampNeg (l5 + 90))))) + ((J l1 1) * (Int32.toInt64 (I 3 (Int32.toNatClampNeg l5))))), .retAddr 0, .int (l5 + 1), .retAddr 0, .retAddr 0] [] (S sl p I J)))) else some (some (.int l2), (S sl p I J))) := by
  refine (r_il (dk D33 6 rfl) rfl).trans ?_
  refine (r_sp (dk D33 7 rfl) cs360).trans ?_
  refine (r_ge (dk D33 8 rfl) rfl).trans (ite2 ?_ ?_)
  · refine (r_aln (dk D33 9 rfl) rfl).trans ?_
    refine (r_getJ (dk D33 10 rfl) ow33 q5_57 hl1).trans ?_
    refine (r_aln (dk D33 11 rfl) rfl).trans ?_
    refine (r_getR (dk D33 12 rfl) ow33 q5_9 ob_2 rfl).trans ?_
    refine (r_il (dk D33 13 rfl) rfl).trans ?_
    refine (r_bp (dk D33 14 rfl) cb90).trans ?_
    refine (r_iadd (dk D33 15 rfl)).trans ?_
    refine (r_ild (dk D33 16 rfl) ar_3).trans (ck3 fun g1 => ?_)
    refine (r_i2l (dk D33 17 rfl)).trans ?_
    refine (r_lmul (dk D33 18 rfl)).trans ?_
    refine (r_aln (dk D33 19 rfl) rfl).trans ?_
    refine (r_getJ (dk D33 20 rfl) ow33 q5_61 hl1).trans ?_
    refine (r_aln (dk D33 21 rfl) rfl).trans ?_
    refine (r_getR (dk D33 22 rfl) ow33 q5_9 ob_2 rfl).trans ?_
    refine (r_il (dk D33 23 rfl) rfl).trans ?_
    refine (r_ild (dk D33 24 rfl) ar_3).trans (ck3 fun g2 => ?_)
    refine (r_i2l (dk D33 25 rfl)).trans ?_
    refine (r_lmul (dk D33 26 rfl)).trans ?_
    refine (r_ladd (dk D33 27 rfl)).trans ?_
    refine (r_ls (L' := [.ref 2, .ref l1, .int l2, .long l3, .retAddr 0, .int l5, .long (((J l1 0) * (Int32.toInt64 (I 3 (Int32.toNatClampNeg (l5 + 90))))) + ((J l1 1) * (Int32.toInt64 (I 3 (Int32.toNatClampNeg l5))))), .retAddr 0]) (dk D33 28 rfl) (Nat.le_of_ble_eq_true rfl) rfl).trans ?_
    refine (r_ll (dk D33 29 rfl) rfl).trans ?_
    refine (r_lln (dk D33 30 rfl) rfl).trans ?_
    refine (r_jle (dk D33 31 rfl) (dk D33 32 rfl) rfl).trans (ite2 ?_ ?_)
    · refine (r_inc (L' := [.ref 2, .ref l1, .int l2, .long l3, .retAddr 0, .int (l5 + 1), .long (((J l1 0) * (Int32.toInt64 (I 3 (Int32.toNatClampNeg (l5 + 90))))) + ((J l1 1) * (Int32.toInt64 (I 3 (Int32.toNatClampNeg l5))))), .retAddr 0]) (dk D33 37 rfl) rfl rfl ci1 (Nat.le_of_ble_eq_true rfl) rfl).trans ?_
      refine (r_goto (L' := [.ref 2, .ref l1, .int l2, .long l3, .retAddr 0, .int (l5 + 1), .retAddr 0, .retAddr 0]) (dk D33 38 rfl) rfl nd33_9 rfl).trans ?_
      exact rfl
    · refine (r_ll (dk D33 33 rfl) rfl).trans ?_
      refine (r_lsn (L' := [.ref 2, .ref l1, .int l2, .long (((J l1 0) * (Int32.toInt64 (I 3 (Int32.toNatClampNeg (l5 + 90))))) + ((J l1 1) * (Int32.toInt64 (I 3 (Int32.toNatClampNeg l5))))), .retAddr 0, .int l5, .long (((J l1 0) * (Int32.toInt64 (I 3 (Int32.toNatClampNeg (l5 + 90))))) + ((J l1 1) * (Int32.toInt64 (I 3 (Int32.toNatClampNeg l5))))), .retAddr 0]) (dk D33 34 rfl) (Nat.le_of_ble_eq_true rfl) rfl).trans ?_
      refine (r_il (dk D33 35 rfl) rfl).trans ?_
      refine (r_isn (L' := [.ref 2, .ref l1, .int l5, .long (((J l1 0) * (Int32.toInt64 (I 3 (Int32.toNatClampNeg (l5 + 90))))) + ((J l1 1) * (Int32.toInt64 (I 3 (Int32.toNatClampNeg l5))))), .retAddr 0, .int l5, .long (((J l1 0) * (Int32.toInt64 (I 3 (Int32.toNatClampNeg (l5 + 90))))) + ((J l1 1) * (Int32.toInt64 (I 3 (Int32.toNatClampNeg l5))))), .retAddr 0]) (dk D33 36 rfl) (Nat.le_of_ble_eq_true rfl) rfl).trans ?_
      refine (r_inc (L' := [.ref 2, .ref l1, .int l5, .long (((J l1 0) * (Int32.toInt64 (I 3 (Int32.toNatClampNeg (l5 + 90))))) + ((J l1 1) * (Int32.toInt64 (I 3 (Int32.toNatClampNeg l5))))), .retAddr 0, .int (l5 + 1), .long (((J l1 0) * (Int32.toInt64 (I 3 (Int32.toNatClampNeg (l5 + 90))))) + ((J l1 1) * (Int32.toInt64 (I 3 (Int32.toNatClampNeg l5))))), .retAddr 0]) (dk D33 37 rfl) rfl rfl ci1 (Nat.le_of_ble_eq_true rfl) rfl).trans ?_
      refine (r_goto (L' := [.ref 2, .ref l1, .int l5, .long (((J l1 0) * (Int32.toInt64 (I 3 (Int32.toNatClampNeg (l5 + 90))))) + ((J l1 1) * (Int32.toInt64 (I 3 (Int32.toNatClampNeg l5))))), .retAddr 0, .int (l5 + 1), .retAddr 0, .retAddr 0]) (dk D33 38 rfl) rfl nd33_9 rfl).trans ?_
      exact rfl
  · refine (r_iln (dk D33 39 rfl) rfl).trans ?_
    exact r_ret (dk D33 40 rfl) rt33
set_option maxRecDepth 20000 in
theorem D34 : dOK 34 [(0, .aload_n 1, 1), (1, .getfield 57, 3), (4, .aload_n 0, 1), (5, .getfield 9, 3), (8, .iload_n 2, 1), (9, .bipush 90, 2), (11, .iadd, 1), (12, .iaload, 1), (13, .i2l, 1), (14, .lmul, 1), (15, .aload_n 1, 1), (16, .getfield 61, 3), (19, .aload_n 0, 1), (20, .getfield 9, 3), (23, .iload_n 2, 1), (24, .iaload, 1), (25, .i2l, 1), (26, .lmul, 1), (27, .ladd, 1), (28, .ldc2_w 64, 3), (31, .ldiv, 1), (32, .lreturn, 1)] = true := by decide +kernel
theorem E34_0 {d sl : Nat} {p : Nat → Nat} {I : Nat → Nat → Int32} {J : Nat → Nat → Int64} {a1 : Nat} (a2 : Int32) (h1 : ob a1 0) : den d 34 [.ref 2, .ref a1, .int a2] (S sl p I J) = ck (ixb 630 (a2 + 90)) (ck (ixb 630 a2) (some (some (.long ((((J a1 0) * (Int32.toInt64 (I 3 (Int32.toNatClampNeg (a2 + 90))))) + ((J a1 1) * (Int32.toInt64 (I 3 (Int32.toNatClampNeg a2))))) / 1000)), (S sl p I J)))) := by
  refine (show den d 34 [.ref 2, .ref a1, .int a2] (S sl p I J) = ev d 34 0 [.ref 2, .ref a1, .int a2] [] (S sl p I J) from rfl).trans ?_
  refine (r_aln (dk D34 0 rfl) rfl).trans ?_
  refine (r_getJ (dk D34 1 rfl) ow34 q5_57 h1).trans ?_
  refine (r_aln (dk D34 2 rfl) rfl).trans ?_
  refine (r_getR (dk D34 3 rfl) ow34 q5_9 ob_2 rfl).trans ?_
  refine (r_iln (dk D34 4 rfl) rfl).trans ?_
  refine (r_bp (dk D34 5 rfl) cb90).trans ?_
  refine (r_iadd (dk D34 6 rfl)).trans ?_
  refine (r_ild (dk D34 7 rfl) ar_3).trans (ck3 fun g1 => ?_)
  refine (r_i2l (dk D34 8 rfl)).trans ?_
  refine (r_lmul (dk D34 9 rfl)).trans ?_
  refine (r_aln (dk D34 10 rfl) rfl).trans ?_
  refine (r_getJ (dk D34 11 rfl) ow34 q5_61 h1).trans ?_
  refine (r_aln (dk D34 12 rfl) rfl).trans ?_
  refine (r_getR (dk D34 13 rfl) ow34 q5_9 ob_2 rfl).trans ?_
  refine (r_iln (dk D34 14 rfl) rfl).trans ?_
  refine (r_ild (dk D34 15 rfl) ar_3).trans (ck3 fun g2 => ?_)
  refine (r_i2l (dk D34 16 rfl)).trans ?_
  refine (r_lmul (dk D34 17 rfl)).trans ?_
  refine (r_ladd (dk D34 18 rfl)).trans ?_
  refine (r_ld2 (dk D34 19 rfl) ow34 kk5_64).trans ?_
  refine (r_ldiv (dk D34 20 rfl) (by decide)).trans ?_
  exact r_rel (dk D34 21 rfl) rt34
set_option maxRecDepth 20000 in
theorem D35 : dOK 35 [(0, .iconst 0, 1), (1, .istore 5, 2), (3, .ldc2_w 55, 3), (6, .lstore 6, 2), (8, .iconst 0, 1), (9, .istore 8, 2), (11, .iload 8, 2), (13, .bipush 90, 2), (15, .if_icmp .gt 51, 3), (18, .lload_n 1, 1), (19, .aload_n 0, 1), (20, .getfield 9, 3), (23, .iload 8, 2), (25, .iaload, 1), (26, .i2l, 1), (27, .lmul, 1), (28, .lload_n 3, 1), (29, .aload_n 0, 1), (30, .getfield 9, 3), (33, .iload 8, 2), (35, .bipush 90, 2), (37, .iadd, 1), (38, .iaload, 1), (39, .i2l, 1), (40, .lmul, 1), (41, .ladd, 1), (42, .lstore 9, 2), (44, .lload 9, 2), (46, .lload 6, 2), (48, .lcmp, 1), (49, .ifCond .le 11, 3), (52, .lload 9, 2), (54, .lstore 6, 2), (56, .iload 8, 2), (58, .istore 5, 2), (60, .iinc 8 1, 3), (63, .goto (-52), 3), (66, .iload 5, 2), (68, .ireturn, 1)] = true := by decide +kernel
theorem E35_0 {d sl : Nat} {p : Nat → Nat} {I : Nat → Nat → Int32} {J : Nat → Nat → Int64} (a1 : Int64) (a2 : Int64)  : den d 35 [.ref 2, .long a1, .long a2] (S sl p I J) = ev d 35 11 [.ref 2, .long a1, .retAddr 0, .long a2, .retAddr 0, .int 0, .long (-1), .retAddr 0, .int 0, .retAddr 0, .retAddr 0] [] (S sl p I J) := by
  refine (show den d 35 [.ref 2, .long a1, .long a2] (S sl p I J) = ev d 35 0 [.ref 2, .long a1, .retAddr 0, .long a2, .retAddr 0, .retAddr 0, .retAddr 0, .retAddr 0, .retAddr 0, .retAddr 0, .retAddr 0] [] (S sl p I J) from rfl).trans ?_
  refine (r_ic (dk D35 0 rfl) ci0).trans ?_
  refine (r_is (L' := [.ref 2, .long a1, .retAddr 0, .long a2, .retAddr 0, .int 0, .retAddr 0, .retAddr 0, .retAddr 0, .retAddr 0, .retAddr 0]) (dk D35 1 rfl) (Nat.le_of_ble_eq_true rfl) rfl).trans ?_
  refine (r_ld2 (dk D35 2 rfl) ow35 kk5_55).trans ?_
  refine (r_ls (L' := [.ref 2, .long a1, .retAddr 0, .long a2, .retAddr 0, .int 0, .long (-1), .retAddr 0, .retAddr 0, .retAddr 0, .retAddr 0]) (dk D35 3 rfl) (Nat.le_of_ble_eq_true rfl) rfl).trans ?_
  refine (r_ic (dk D35 4 rfl) ci0).trans ?_
  refine (r_is (L' := [.ref 2, .long a1, .retAddr 0, .long a2, .retAddr 0, .int 0, .long (-1), .retAddr 0, .int 0, .retAddr 0, .retAddr 0]) (dk D35 5 rfl) (Nat.le_of_ble_eq_true rfl) rfl).trans ?_
  exact rfl
theorem E35_11 {d sl : Nat} {p : Nat → Nat} {I : Nat → Nat → Int32} {J : Nat → Nat → Int64} (l1 : Int64) (l3 : Int64) (l5 : Int32) (l6 : Int64) (l8 : Int32)  : ev d 35 11 [.ref 2, .long l1, .retAddr 0, .long l3, .retAddr 0, .int l5, .long l6, .retAddr 0, .int l8, .retAddr 0, .retAddr 0] [] (S sl p I J) = (if l8 ≤ 90 then ck (ixb 630 l8) (ck (ixb 630 (l8 + 90)) ((if ((l1 * (Int32.toInt64 (I 3 (Int32.toNatClampNeg l8)))) + (l3 * (Int32.toInt64 (I 3 (Int32.toNatClampNeg (l8 + 90)))))) ≤ l6 then ev d 35 11 [.ref 2, .long l1, .retAddr 0, .long l3, .retAddr 0, .int l5, .long l6, .retAddr 0, .int (l8 + 1), .retAddr 0, .retAddr 0] [] (S sl p I J) else ev d 35 11 [.ref 2, .long l1, .retAddr 0, .long l3, .retAddr 0, .int l8, .long ((l1 * (Int32.toInt64 (I 3 (Int32.toNatClampNeg l8)))) + (l3 * (Int32.toInt64 (I 3 (Int32.toNatClampNeg (l8 + 90)))))), .retAddr 0, .int (l8 + 1), .retAddr 0, .retAddr 0] [] (S sl p I J)))) else some (some (.int l5), (S sl p I J))) := by
  refine (r_il (dk D35 6 rfl) rfl).trans ?_
  refine (r_bp (dk D35 7 rfl) cb90).trans ?_
  refine (r_gt (dk D35 8 rfl) rfl).trans (ite2 ?_ ?_)
  · refine (r_lln (dk D35 9 rfl) rfl).trans ?_
    refine (r_aln (dk D35 10 rfl) rfl).trans ?_
    refine (r_getR (dk D35 11 rfl) ow35 q5_9 ob_2 rfl).trans ?_
    refine (r_il (dk D35 12 rfl) rfl).trans ?_
    refine (r_ild (dk D35 13 rfl) ar_3).trans (ck3 fun g1 => ?_)
    refine (r_i2l (dk D35 14 rfl)).trans ?_
    refine (r_lmul (dk D35 15 rfl)).trans ?_
    refine (r_lln (dk D35 16 rfl) rfl).trans ?_
    refine (r_aln (dk D35 17 rfl) rfl).trans ?_
    refine (r_getR (dk D35 18 rfl) ow35 q5_9 ob_2 rfl).trans ?_
    refine (r_il (dk D35 19 rfl) rfl).trans ?_
    refine (r_bp (dk D35 20 rfl) cb90).trans ?_
    refine (r_iadd (dk D35 21 rfl)).trans ?_
    refine (r_ild (dk D35 22 rfl) ar_3).trans (ck3 fun g2 => ?_)
    refine (r_i2l (dk D35 23 rfl)).trans ?_
    refine (r_lmul (dk D35 24 rfl)).trans ?_
    refine (r_ladd (dk D35 25 rfl)).trans ?_
    refine (r_ls (L' := [.ref 2, .long l1, .retAddr 0, .long l3, .retAddr 0, .int l5, .long l6, .retAddr 0, .int l8, .long ((l1 * (Int32.toInt64 (I 3 (Int32.toNatClampNeg l8)))) + (l3 * (Int32.toInt64 (I 3 (Int32.toNatClampNeg (l8 + 90)))))), .retAddr 0]) (dk D35 26 rfl) (Nat.le_of_ble_eq_true rfl) rfl).trans ?_
    refine (r_ll (dk D35 27 rfl) rfl).trans ?_
    refine (r_ll (dk D35 28 rfl) rfl).trans ?_
    refine (r_jle (dk D35 29 rfl) (dk D35 30 rfl) rfl).trans (ite2 ?_ ?_)
    · refine (r_inc (L' := [.ref 2, .long l1, .retAddr 0, .long l3, .retAddr 0, .int l5, .long l6, .retAddr 0, .int (l8 + 1), .long ((l1 * (Int32.toInt64 (I 3 (Int32.toNatClampNeg l8)))) + (l3 * (Int32.toInt64 (I 3 (Int32.toNatClampNeg (l8 + 90)))))), .retAddr 0]) (dk D35 35 rfl) rfl rfl ci1 (Nat.le_of_ble_eq_true rfl) rfl).trans ?_
      refine (r_goto (L' := [.ref 2, .long l1, .retAddr 0, .long l3, .retAddr 0, .int l5, .long l6, .retAddr 0, .int (l8 + 1), .retAddr 0, .retAddr 0]) (dk D35 36 rfl) rfl nd35_11 rfl).trans ?_
      exact rfl
    · refine (r_ll (dk D35 31 rfl) rfl).trans ?_
      refine (r_ls (L' := [.ref 2, .long l1, .retAddr 0, .long l3, .retAddr 0, .int l5, .long ((l1 * (Int32.toInt64 (I 3 (Int32.toNatClampNeg l8)))) + (l3 * (Int32.toInt64 (I 3 (Int32.toNatClampNeg (l8 + 90)))))), .retAddr 0, .int l8, .long ((l1 * (Int32.toInt64 (I 3 (Int32.toNatClampNeg l8)))) + (l3 * (Int32.toInt64 (I 3 (Int32.toNatClampNeg (l8 + 90)))))), .retAddr 0]) (dk D35 32 rfl) (Nat.le_of_ble_eq_true rfl) rfl).trans ?_
      refine (r_il (dk D35 33 rfl) rfl).trans ?_
      refine (r_is (L' := [.ref 2, .long l1, .retAddr 0, .long l3, .retAddr 0, .int l8, .long ((l1 * (Int32.toInt64 (I 3 (Int32.toNatClampNeg l8)))) + (l3 * (Int32.toInt64 (I 3 (Int32.toNatClampNeg (l8 + 90)))))), .retAddr 0, .int l8, .long ((l1 * (Int32.toInt64 (I 3 (Int32.toNatClampNeg l8)))) + (l3 * (Int32.toInt64 (I 3 (Int32.toNatClampNeg (l8 + 90)))))), .retAddr 0]) (dk D35 34 rfl) (Nat.le_of_ble_eq_true rfl) rfl).trans ?_
      refine (r_inc (L' := [.ref 2, .long l1, .retAddr 0, .long l3, .retAddr 0, .int l8, .long ((l1 * (Int32.toInt64 (I 3 (Int32.toNatClampNeg l8)))) + (l3 * (Int32.toInt64 (I 3 (Int32.toNatClampNeg (l8 + 90)))))), .retAddr 0, .int (l8 + 1), .long ((l1 * (Int32.toInt64 (I 3 (Int32.toNatClampNeg l8)))) + (l3 * (Int32.toInt64 (I 3 (Int32.toNatClampNeg (l8 + 90)))))), .retAddr 0]) (dk D35 35 rfl) rfl rfl ci1 (Nat.le_of_ble_eq_true rfl) rfl).trans ?_
      refine (r_goto (L' := [.ref 2, .long l1, .retAddr 0, .long l3, .retAddr 0, .int l8, .long ((l1 * (Int32.toInt64 (I 3 (Int32.toNatClampNeg l8)))) + (l3 * (Int32.toInt64 (I 3 (Int32.toNatClampNeg (l8 + 90)))))), .retAddr 0, .int (l8 + 1), .retAddr 0, .retAddr 0]) (dk D35 36 rfl) rfl nd35_11 rfl).trans ?_
      exact rfl
  · refine (r_il (dk D35 37 rfl) rfl).trans ?_
    exact r_ret (dk D35 38 rfl) rt35
set_option maxRecDepth 20000 in
theorem D36 : dOK 36 [(0, .aload_n 0, 1), (1, .aload_n 1, 1), (2, .getfield 66, 3), (5, .aload_n 0, 1), (6, .aload_n 1, 1), (7, .iload_n 2, 1), (8, .invokevirtual 69, 3), (11, .invokevirtual 73, 3), (14, .ireturn, 1)] = true := by decide +kernel
theorem E36_0 {d sl : Nat} {p : Nat → Nat} {I : Nat → Nat → Int32} {J : Nat → Nat → Int64} {a1 : Nat} (a2 : Int32) (h1 : ob a1 0) : den (d + 1) 36 [.ref 2, .ref a1, .int a2] (S sl p I J) = evK (d + 1) 36 11 [.ref 2, .ref a1, .int a2] [.long (J a1 2), .ref 2] (den d 34 [.ref 2, .ref a1, .int a2] (S sl p I J)) := by
  refine (show den (d + 1) 36 [.ref 2, .ref a1, .int a2] (S sl p I J) = ev (d + 1) 36 0 [.ref 2, .ref a1, .int a2] [] (S sl p I J) from rfl).trans ?_
  refine (r_aln (dk D36 0 rfl) rfl).trans ?_
  refine (r_aln (dk D36 1 rfl) rfl).trans ?_
  refine (r_getJ (dk D36 2 rfl) ow36 q5_66 h1).trans ?_
  refine (r_aln (dk D36 3 rfl) rfl).trans ?_
  refine (r_aln (dk D36 4 rfl) rfl).trans ?_
  refine (r_iln (dk D36 5 rfl) rfl).trans ?_
  exact r_cv (dk D36 6 rfl) ow36 c5_69 mf34 (Nat.le_of_ble_eq_true rfl) rfl rfl (Nat.le_of_ble_eq_true rfl) (Nat.le_of_ble_eq_true rfl) ob_2
theorem E36_11 {d sl : Nat} {p : Nat → Nat} {I : Nat → Nat → Int32} {J : Nat → Nat → Int64} {l1 : Nat} (l2 : Int32) (s0 : Int64) (s1 : Int64) (hl1 : ob l1 0) : ev (d + 1) 36 11 [.ref 2, .ref l1, .int l2] [.long s0, .long s1, .ref 2] (S sl p I J) = evK (d + 1) 36 14 [.ref 2, .ref l1, .int l2] [] (den d 35 [.ref 2, .long s1, .long s0] (S sl p I J)) := by
  exact r_cv (dk D36 7 rfl) ow36 c5_73 mf35 (Nat.le_of_ble_eq_true rfl) rfl rfl (Nat.le_of_ble_eq_true rfl) (Nat.le_of_ble_eq_true rfl) ob_2
theorem E36_14 {d sl : Nat} {p : Nat → Nat} {I : Nat → Nat → Int32} {J : Nat → Nat → Int64} {l1 : Nat} (l2 : Int32) (s0 : Int32) (hl1 : ob l1 0) : ev d 36 14 [.ref 2, .ref l1, .int l2] [.int s0] (S sl p I J) = some (some (.int s0), (S sl p I J)) := by
  exact r_ret (dk D36 8 rfl) rt36
set_option maxRecDepth 20000 in
theorem D37 : dOK 37 [(0, .aload_n 0, 1), (1, .aload_n 1, 1), (2, .invokevirtual 77, 3), (5, .istore_n 2, 1), (6, .aload_n 0, 1), (7, .aload_n 0, 1), (8, .aload_n 1, 1), (9, .iload_n 2, 1), (10, .invokevirtual 69, 3), (13, .aload_n 1, 1), (14, .getfield 66, 3), (17, .invokevirtual 73, 3), (20, .istore_n 3, 1), (21, .iload_n 2, 1), (22, .sipush 180, 3), (25, .iadd, 1), (26, .sipush 360, 3), (29, .irem, 1), (30, .iload_n 3, 1), (31, .invokestatic 32, 3), (34, .iload_n 3, 1), (35, .invokestatic 81, 3), (38, .ireturn, 1)] = true := by decide +kernel
theorem E37_0 {d sl : Nat} {p : Nat → Nat} {I : Nat → Nat → Int32} {J : Nat → Nat → Int64} {a1 : Nat} (h1 : ob a1 0) : den (d + 1) 37 [.ref 2, .ref a1] (S sl p I J) = evK (d + 1) 37 5 [.ref 2, .ref a1, .retAddr 0, .retAddr 0] [] (den d 33 [.ref 2, .ref a1] (S sl p I J)) := by
  refine (show den (d + 1) 37 [.ref 2, .ref a1] (S sl p I J) = ev (d + 1) 37 0 [.ref 2, .ref a1, .retAddr 0, .retAddr 0] [] (S sl p I J) from rfl).trans ?_
  refine (r_aln (dk D37 0 rfl) rfl).trans ?_
  refine (r_aln (dk D37 1 rfl) rfl).trans ?_
  exact r_cv (dk D37 2 rfl) ow37 c5_77 mf33 (Nat.le_of_ble_eq_true rfl) rfl rfl (Nat.le_of_ble_eq_true rfl) (Nat.le_of_ble_eq_true rfl) ob_2
theorem E37_5 {d sl : Nat} {p : Nat → Nat} {I : Nat → Nat → Int32} {J : Nat → Nat → Int64} {l1 : Nat} (s0 : Int32) (hl1 : ob l1 0) : ev (d + 1) 37 5 [.ref 2, .ref l1, .retAddr 0, .retAddr 0] [.int s0] (S sl p I J) = evK (d + 1) 37 13 [.ref 2, .ref l1, .int s0, .retAddr 0] [.ref 2] (den d 34 [.ref 2, .ref l1, .int s0] (S sl p I J)) := by
  refine (r_isn (L' := [.ref 2, .ref l1, .int s0, .retAddr 0]) (dk D37 3 rfl) (Nat.le_of_ble_eq_true rfl) rfl).trans ?_
  refine (r_aln (dk D37 4 rfl) rfl).trans ?_
  refine (r_aln (dk D37 5 rfl) rfl).trans ?_
  refine (r_aln (dk D37 6 rfl) rfl).trans ?_
  refine (r_iln (dk D37 7 rfl) rfl).trans ?_
  exact r_cv (dk D37 8 rfl) ow37 c5_69 mf34 (Nat.le_of_ble_eq_true rfl) rfl rfl (Nat.le_of_ble_eq_true rfl) (Nat.le_of_ble_eq_true rfl) ob_2
theorem E37_13 {d sl : Nat} {p : Nat → Nat} {I : Nat → Nat → Int32} {J : Nat → Nat → Int64} {l1 : Nat} (l2 : Int32) (s0 : Int64) (hl1 : ob l1 0) : ev (d + 1) 37 13 [.ref 2, .ref l1, .int l2, .retAddr 0] [.long s0, .ref 2] (S sl p I J) = evK (d + 1) 37 20 [.ref 2, .ref l1, .int l2, .retAddr 0] [] (den d 35 [.ref 2, .long s0, .long (J l1 2)] (S sl p I J)) := by
  refine (r_aln (dk D37 9 rfl) rfl).trans ?_
  refine (r_getJ (dk D37 10 rfl) ow37 q5_66 hl1).trans ?_
  exact r_cv (dk D37 11 rfl) ow37 c5_73 mf35 (Nat.le_of_ble_eq_true rfl) rfl rfl (Nat.le_of_ble_eq_true rfl) (Nat.le_of_ble_eq_true rfl) ob_2
theorem E37_20 {d sl : Nat} {p : Nat → Nat} {I : Nat → Nat → Int32} {J : Nat → Nat → Int64} {l1 : Nat} (l2 : Int32) (s0 : Int32) (hl1 : ob l1 0) : ev (d + 1) 37 20 [.ref 2, .ref l1, .int l2, .retAddr 0] [.int s0] (S sl p I J) = evK (d + 1) 37 34 [.ref 2, .ref l1, .int l2, .int s0] [] (den d 173 [.int ((l2 + 180) - (l2 + 180) / 360 * 360), .int s0] (S sl p I J)) := by
  refine (r_isn (L' := [.ref 2, .ref l1, .int l2, .int s0]) (dk D37 12 rfl) (Nat.le_of_ble_eq_true rfl) rfl).trans ?_
  refine (r_iln (dk D37 13 rfl) rfl).trans ?_
  refine (r_sp (dk D37 14 rfl) cs180).trans ?_
  refine (r_iadd (dk D37 15 rfl)).trans ?_
  refine (r_sp (dk D37 16 rfl) cs360).trans ?_
  refine (r_irem (dk D37 17 rfl) (by decide)).trans ?_
  refine (r_iln (dk D37 18 rfl) rfl).trans ?_
  exact r_cs (dk D37 19 rfl) ow37 pn5_32 c5_32 mf173 (Nat.le_of_ble_eq_true rfl) rfl rfl (Nat.le_of_ble_eq_true rfl) (Nat.le_of_ble_eq_true rfl)
theorem E37_34 {d sl : Nat} {p : Nat → Nat} {I : Nat → Nat → Int32} {J : Nat → Nat → Int64} {l1 : Nat} (l2 : Int32) (l3 : Int32) (s0 : Int32) (hl1 : ob l1 0) : ev (d + 1) 37 34 [.ref 2, .ref l1, .int l2, .int l3] [.int s0] (S sl p I J) = evK (d + 1) 37 38 [.ref 2, .ref l1, .int l2, .int l3] [] (den d 174 [.int s0, .int l3] (S sl p I J)) := by
  refine (r_iln (dk D37 20 rfl) rfl).trans ?_
  exact r_cs (dk D37 21 rfl) ow37 pn5_81 c5_81 mf174 (Nat.le_of_ble_eq_true rfl) rfl rfl (Nat.le_of_ble_eq_true rfl) (Nat.le_of_ble_eq_true rfl)
theorem E37_38 {d sl : Nat} {p : Nat → Nat} {I : Nat → Nat → Int32} {J : Nat → Nat → Int64} {l1 : Nat} (l2 : Int32) (l3 : Int32) (s0 : Int32) (hl1 : ob l1 0) : ev d 37 38 [.ref 2, .ref l1, .int l2, .int l3] [.int s0] (S sl p I J) = some (some (.int s0), (S sl p I J)) := by
  exact r_ret (dk D37 22 rfl) rt37
