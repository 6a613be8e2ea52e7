set_option maxRecDepth 20000 in
theorem D177 : dOK 177 [(0, .aload_n 0, 1), (1, .getfield 108, 3), (4, .ireturn, 1)] = true := by decide +kernel
theorem E177_0 {d sl : Nat} {p : Nat → Nat} {I : Nat → Nat → Int32} {J : Nat → Nat → Int64}   : den d 177 [.ref 46] (S sl p I J) = some (some (.int (I 46 0)), (S sl p I J)) := by
  refine (show den d 177 [.ref 46] (S sl p I J) = ev d 177 0 [.ref 46] [] (S sl p I J) from rfl).trans ?_
  refine (r_aln (dk D177 0 rfl) rfl).trans ?_
  refine (r_getI (dk D177 1 rfl) ow177 q12_108 ob_46).trans ?_
  exact r_ret (dk D177 2 rfl) rt177
set_option maxRecDepth 20000 in
theorem D178 : dOK 178 [(0, .aload_n 0, 1), (1, .iload_n 1, 1), (2, .putfield 108, 3), (5, .iconst (-1), 1), (6, .ireturn, 1)] = true := by decide +kernel
theorem E178_0 {d sl : Nat} {p : Nat → Nat} {I : Nat → Nat → Int32} {J : Nat → Nat → Int64} (a1 : Int32)  : den d 178 [.ref 46, .int a1] (S sl p I J) = some (some (.int (-1)), (S sl p (up2 I 46 0 a1) J)) := by
  refine (show den d 178 [.ref 46, .int a1] (S sl p I J) = ev d 178 0 [.ref 46, .int a1] [] (S sl p I J) from rfl).trans ?_
  refine (r_aln (dk D178 0 rfl) rfl).trans ?_
  refine (r_iln (dk D178 1 rfl) rfl).trans ?_
  refine (r_putI (dk D178 2 rfl) ow178 w12_108 ob_46).trans ?_
  refine (r_ic (dk D178 3 rfl) cim1).trans ?_
  exact r_ret (dk D178 4 rfl) rt178
set_option maxRecDepth 20000 in
theorem D179 : dOK 179 [(0, .aload_n 0, 1), (1, .iconst 0, 1), (2, .putfield 108, 3), (5, .iload_n 1, 1), (6, .ireturn, 1)] = true := by decide +kernel
theorem E179_0 {d sl : Nat} {p : Nat → Nat} {I : Nat → Nat → Int32} {J : Nat → Nat → Int64} (a1 : Int32)  : den d 179 [.ref 46, .int a1] (S sl p I J) = some (some (.int a1), (S sl p (up2 I 46 0 0) J)) := by
  refine (show den d 179 [.ref 46, .int a1] (S sl p I J) = ev d 179 0 [.ref 46, .int a1] [] (S sl p I J) from rfl).trans ?_
  refine (r_aln (dk D179 0 rfl) rfl).trans ?_
  refine (r_ic (dk D179 1 rfl) ci0).trans ?_
  refine (r_putI (dk D179 2 rfl) ow179 w12_108 ob_46).trans ?_
  refine (r_iln (dk D179 3 rfl) rfl).trans ?_
  exact r_ret (dk D179 4 rfl) rt179
set_option maxRecDepth 20000 in
theorem D180 : dOK 180 [(0, .aload_n 0, 1), (1, .iconst 0, 1), (2, .putfield 108, 3), (5, .lload_n 1, 1), (6, .lreturn, 1)] = true := by decide +kernel
theorem E180_0 {d sl : Nat} {p : Nat → Nat} {I : Nat → Nat → Int32} {J : Nat → Nat → Int64} (a1 : Int64)  : den d 180 [.ref 46, .long a1] (S sl p I J) = some (some (.long a1), (S sl p (up2 I 46 0 0) J)) := by
  refine (show den d 180 [.ref 46, .long a1] (S sl p I J) = ev d 180 0 [.ref 46, .long a1, .retAddr 0] [] (S sl p I J) from rfl).trans ?_
  refine (r_aln (dk D180 0 rfl) rfl).trans ?_
  refine (r_ic (dk D180 1 rfl) ci0).trans ?_
  refine (r_putI (dk D180 2 rfl) ow180 w12_108 ob_46).trans ?_
  refine (r_lln (dk D180 3 rfl) rfl).trans ?_
  exact r_rel (dk D180 4 rfl) rt180
set_option maxRecDepth 20000 in
theorem D181 : dOK 181 [(0, .iload_n 0, 1), (1, .iload_n 1, 1), (2, .if_icmp .lt 12, 3), (5, .iload_n 0, 1), (6, .iload_n 2, 1), (7, .if_icmp .gt 7, 3), (10, .iconst 1, 1), (11, .goto 4, 3), (14, .iconst 0, 1), (15, .ireturn, 1)] = true := by decide +kernel
theorem E181_0 {d sl : Nat} {p : Nat → Nat} {I : Nat → Nat → Int32} {J : Nat → Nat → Int64} (a0 : Int32) (a1 : Int32) (a2 : Int32)  : den d 181 [.int a0, .int a1, .int a2] (S sl p I J) = (if a0 < a1 then some (some (.int 0), (S sl p I J)) else (if a0 ≤ a2 then some (some (.int 1), (S sl p I J)) else some (some (.int 0), (S sl p I J)))) := by
  refine (show den d 181 [.int a0, .int a1, .int a2] (S sl p I J) = ev d 181 0 [.int a0, .int a1, .int a2] [] (S sl p I J) from rfl).trans ?_
  refine (r_iln (dk D181 0 rfl) rfl).trans ?_
  refine (r_iln (dk D181 1 rfl) rfl).trans ?_
  refine (r_lt (dk D181 2 rfl) rfl).trans (ite2 ?_ ?_)
  · refine (r_ic (dk D181 8 rfl) ci0).trans ?_
    exact r_rez (dk D181 9 rfl) rt181 (by decide)
  · refine (r_iln (dk D181 3 rfl) rfl).trans ?_
    refine (r_iln (dk D181 4 rfl) rfl).trans ?_
    refine (r_gt (dk D181 5 rfl) rfl).trans (ite2 ?_ ?_)
    · refine (r_ic (dk D181 6 rfl) ci1).trans ?_
      refine (r_goto (L' := [.int a0, .int a1, .int a2]) (dk D181 7 rfl) rfl nd181_15 rfl).trans ?_
      exact r_rez (dk D181 9 rfl) rt181 (by decide)
    · refine (r_ic (dk D181 8 rfl) ci0).trans ?_
      exact r_rez (dk D181 9 rfl) rt181 (by decide)
set_option maxRecDepth 20000 in
theorem D182 : dOK 182 [(0, .iload_n 0, 1), (1, .sipush 360, 3), (4, .irem, 1), (5, .istore_n 1, 1), (6, .iload_n 1, 1), (7, .ifCond .ge 9, 3), (10, .iinc 1 360, 6), (16, .iload_n 1, 1), (17, .sipush 180, 3), (20, .if_icmp .le 13, 3), (23, .iload_n 1, 1), (24, .sipush 180, 3), (27, .isub, 1), (28, .invokestatic 111, 3), (31, .ineg, 1), (32, .ireturn, 1), (33, .iload_n 1, 1), (34, .sipush 180, 3), (37, .iload_n 1, 1), (38, .isub, 1), (39, .imul, 1), (40, .istore_n 2, 1), (41, .sipush 4000, 3), (44, .iload_n 2, 1), (45, .imul, 1), (46, .ldc 115, 2), (48, .iload_n 2, 1), (49, .isub, 1), (50, .idiv, 1), (51, .ireturn, 1)] = true := by decide +kernel
theorem E182_0 {d sl : Nat} {p : Nat → Nat} {I : Nat → Nat → Int32} {J : Nat → Nat → Int64} (a0 : Int32)  : den d 182 [.int a0] (S sl p I J) = (if (a0 - a0 / 360 * 360) < 0 then ev d 182 16 [.int a0, .int ((a0 - a0 / 360 * 360) + 360), .retAddr 0] [] (S sl p I J) else ev d 182 16 [.int a0, .int (a0 - a0 / 360 * 360), .retAddr 0] [] (S sl p I J)) := by
  refine (show den d 182 [.int a0] (S sl p I J) = ev d 182 0 [.int a0, .retAddr 0, .retAddr 0] [] (S sl p I J) from rfl).trans ?_
  refine (r_iln (dk D182 0 rfl) rfl).trans ?_
  refine (r_sp (dk D182 1 rfl) cs360).trans ?_
  refine (r_irem (dk D182 2 rfl) (by decide)).trans ?_
  refine (r_isn (L' := [.int a0, .int (a0 - a0 / 360 * 360), .retAddr 0]) (dk D182 3 rfl) (Nat.le_of_ble_eq_true rfl) rfl).trans ?_
  refine (r_iln (dk D182 4 rfl) rfl).trans ?_
  refine (r_ge0 (dk D182 5 rfl) rfl).trans (ite2 ?_ ?_)
  · refine (r_inc (L' := [.int a0, .int ((a0 - a0 / 360 * 360) + 360), .retAddr 0]) (dk D182 6 rfl) rfl rfl ci360 (Nat.le_of_ble_eq_true rfl) rfl).trans ?_
    exact rfl
  · exact rfl
theorem E182_16 {d sl : Nat} {p : Nat → Nat} {I : Nat → Nat → Int32} {J : Nat → Nat → Int64} (l0 : Int32) (l1 : Int32)  : ev (d + 1) 182 16 [.int l0, .int l1, .retAddr 0] [] (S sl p I J) = (if l1 ≤ 180 then ck (!decide ((40500 - (l1 * (180 - l1))) = 0)) (some (some (.int ((4000 * (l1 * (180 - l1))) / (40500 - (l1 * (180 - l1))))), (S sl p I J))) else evK (d + 1) 182 31 [.int l0, .int l1, .retAddr 0] [] (den d 182 [.int (l1 - 180)] (S sl p I J))) := by
  refine (r_iln (dk D182 7 rfl) rfl).trans ?_
  refine (r_sp (dk D182 8 rfl) cs180).trans ?_
  refine (r_le (dk D182 9 rfl) rfl).trans (ite2 ?_ ?_)
  · refine (r_iln (dk D182 16 rfl) rfl).trans ?_
    refine (r_sp (dk D182 17 rfl) cs180).trans ?_
    refine (r_iln (dk D182 18 rfl) rfl).trans ?_
    refine (r_isub (dk D182 19 rfl)).trans ?_
    refine (r_imul (dk D182 20 rfl)).trans ?_
    refine (r_isn (L' := [.int l0, .int l1, .int (l1 * (180 - l1))]) (dk D182 21 rfl) (Nat.le_of_ble_eq_true rfl) rfl).trans ?_
    refine (r_sp (dk D182 22 rfl) cs4000).trans ?_
    refine (r_iln (dk D182 23 rfl) rfl).trans ?_
    refine (r_imul (dk D182 24 rfl)).trans ?_
    refine (r_ldc (dk D182 25 rfl) ow182 k12_115).trans ?_
    refine (r_iln (dk D182 26 rfl) rfl).trans ?_
    refine (r_isub (dk D182 27 rfl)).trans ?_
    refine (r_idivc (dk D182 28 rfl)).trans (ck3 fun g1 => ?_)
    exact r_ret (dk D182 29 rfl) rt182
  · refine (r_iln (dk D182 10 rfl) rfl).trans ?_
    refine (r_sp (dk D182 11 rfl) cs180).trans ?_
    refine (r_isub (dk D182 12 rfl)).trans ?_
    exact r_cs (dk D182 13 rfl) ow182 pn12_111 c12_111 mf182 (Nat.le_of_ble_eq_true rfl) rfl rfl (Nat.le_of_ble_eq_true rfl) (Nat.le_of_ble_eq_true rfl)
theorem E182_31 {d sl : Nat} {p : Nat → Nat} {I : Nat → Nat → Int32} {J : Nat → Nat → Int64} (l0 : Int32) (l1 : Int32) (s0 : Int32)  : ev d 182 31 [.int l0, .int l1, .retAddr 0] [.int s0] (S sl p I J) = some (some (.int (-s0)), (S sl p I J)) := by
  refine (r_ineg (dk D182 14 rfl)).trans ?_
  exact r_ret (dk D182 15 rfl) rt182
set_option maxRecDepth 20000 in
theorem D183 : dOK 183 [(0, .iload_n 0, 1), (1, .bipush 90, 2), (3, .iadd, 1), (4, .invokestatic 111, 3), (7, .ireturn, 1)] = true := by decide +kernel
theorem E183_0 {d sl : Nat} {p : Nat → Nat} {I : Nat → Nat → Int32} {J : Nat → Nat → Int64} (a0 : Int32)  : den (d + 1) 183 [.int a0] (S sl p I J) = evK (d + 1) 183 7 [.int a0] [] (den d 182 [.int (a0 + 90)] (S sl p I J)) := by
  refine (show den (d + 1) 183 [.int a0] (S sl p I J) = ev (d + 1) 183 0 [.int a0] [] (S sl p I J) from rfl).trans ?_
  refine (r_iln (dk D183 0 rfl) rfl).trans ?_
  refine (r_bp (dk D183 1 rfl) cb90).trans ?_
  refine (r_iadd (dk D183 2 rfl)).trans ?_
  exact r_cs (dk D183 3 rfl) ow183 pn12_111 c12_111 mf182 (Nat.le_of_ble_eq_true rfl) rfl rfl (Nat.le_of_ble_eq_true rfl) (Nat.le_of_ble_eq_true rfl)
theorem E183_7 {d sl : Nat} {p : Nat → Nat} {I : Nat → Nat → Int32} {J : Nat → Nat → Int64} (l0 : Int32) (s0 : Int32)  : ev d 183 7 [.int l0] [.int s0] (S sl p I J) = some (some (.int s0), (S sl p I J)) := by
  exact r_ret (dk D183 4 rfl) rt183
set_option maxRecDepth 20000 in
theorem D184 : dOK 184 [(0, .lconst 0, 1), (1, .lstore_n 2, 1), (2, .ldc2_w 116, 3), (5, .lstore 4, 2), (7, .lload_n 2, 1), (8, .lload 4, 2), (10, .lcmp, 1), (11, .ifCond .ge 40, 3), (14, .lload_n 2, 1), (15, .lload 4, 2), (17, .ladd, 1), (18, .lconst 1, 1), (19, .ladd, 1), (20, .ldc2_w 118, 3), (23, .ldiv, 1), (24, .lstore 6, 2), (26, .lload 6, 2), (28, .lload 6, 2), (30, .lmul, 1), (31, .lload_n 0, 1), (32, .lcmp, 1), (33, .ifCond .gt 9, 3), (36, .lload 6, 2), (38, .lstore_n 2, 1), (39, .goto 9, 3), (42, .lload 6, 2), (44, .lconst 1, 1), (45, .lsub, 1), (46, .lstore 4, 2), (48, .goto (-41), 3), (51, .lload_n 2, 1), (52, .lreturn, 1)] = true := by decide +kernel
theorem E184_0 {d sl : Nat} {p : Nat → Nat} {I : Nat → Nat → Int32} {J : Nat → Nat → Int64} (a0 : Int64)  : den d 184 [.long a0] (S sl p I J) = ev d 184 7 [.long a0, .retAddr 0, .long 0, .retAddr 0, .long 3037000499, .retAddr 0, .retAddr 0, .retAddr 0] [] (S sl p I J) := by
  refine (show den d 184 [.long a0] (S sl p I J) = ev d 184 0 [.long a0, .retAddr 0, .retAddr 0, .retAddr 0, .retAddr 0, .retAddr 0, .retAddr 0, .retAddr 0] [] (S sl p I J) from rfl).trans ?_
  refine (r_lc (dk D184 0 rfl) cl0).trans ?_
  refine (r_lsn (L' := [.long a0, .retAddr 0, .long 0, .retAddr 0, .retAddr 0, .retAddr 0, .retAddr 0, .retAddr 0]) (dk D184 1 rfl) (Nat.le_of_ble_eq_true rfl) rfl).trans ?_
  refine (r_ld2 (dk D184 2 rfl) ow184 kk12_116).trans ?_
  refine (r_ls (L' := [.long a0, .retAddr 0, .long 0, .retAddr 0, .long 3037000499, .retAddr 0, .retAddr 0, .retAddr 0]) (dk D184 3 rfl) (Nat.le_of_ble_eq_true rfl) rfl).trans ?_
  exact rfl
theorem E184_7 {d sl : Nat} {p : Nat → Nat} {I : Nat → Nat → Int32} {J : Nat → Nat → Int64} (l0 : Int64) (l2 : Int64) (l4 : Int64)  : ev d 184 7 [.long l0, .retAddr 0, .long l2, .retAddr 0, .long l4, .retAddr 0, .retAddr 0, .retAddr 0] [] (S sl p I J) = (if l2 < l4 then (if ((((l2 + l4) + 1) / 2) * (((l2 + l4) + 1) / 2)) ≤ l0 then ev d 184 7 [.long l0, .retAddr 0, .long (((l2 + l4) + 1) / 2), .retAddr 0, .long l4, .retAddr 0, .retAddr 0, .retAddr 0] [] (S sl p I J) else ev d 184 7 [.long l0, .retAddr 0, .long l2, .retAddr 0, .long ((((l2 + l4) + 1) / 2) - 1), .retAddr 0, .retAddr 0, .retAddr 0] [] (S sl p I J)) else some (some (.long l2), (S sl p I J))) := by
  refine (r_lln (dk D184 4 rfl) rfl).trans ?_
  refine (r_ll (dk D184 5 rfl) rfl).trans ?_
  refine (r_jge (dk D184 6 rfl) (dk D184 7 rfl) rfl).trans (ite2 ?_ ?_)
  · refine (r_lln (dk D184 8 rfl) rfl).trans ?_
    refine (r_ll (dk D184 9 rfl) rfl).trans ?_
    refine (r_ladd (dk D184 10 rfl)).trans ?_
    refine (r_lc (dk D184 11 rfl) cl1).trans ?_
    refine (r_ladd (dk D184 12 rfl)).trans ?_
    refine (r_ld2 (dk D184 13 rfl) ow184 kk12_118).trans ?_
    refine (r_ldiv (dk D184 14 rfl) (by decide)).trans ?_
    refine (r_ls (L' := [.long l0, .retAddr 0, .long l2, .retAddr 0, .long l4, .retAddr 0, .long (((l2 + l4) + 1) / 2), .retAddr 0]) (dk D184 15 rfl) (Nat.le_of_ble_eq_true rfl) rfl).trans ?_
    refine (r_ll (dk D184 16 rfl) rfl).trans ?_
    refine (r_ll (dk D184 17 rfl) rfl).trans ?_
    refine (r_lmul (dk D184 18 rfl)).trans ?_
    refine (r_lln (dk D184 19 rfl) rfl).trans ?_
    refine (r_jgt (dk D184 20 rfl) (dk D184 21 rfl) rfl).trans (ite2 ?_ ?_)
    · refine (r_ll (dk D184 22 rfl) rfl).trans ?_
      refine (r_lsn (L' := [.long l0, .retAddr 0, .long (((l2 + l4) + 1) / 2), .retAddr 0, .long l4, .retAddr 0, .long (((l2 + l4) + 1) / 2), .retAddr 0]) (dk D184 23 rfl) (Nat.le_of_ble_eq_true rfl) rfl).trans ?_
      refine (r_goto (L' := [.long l0, .retAddr 0, .long (((l2 + l4) + 1) / 2), .retAddr 0, .long l4, .retAddr 0, .long (((l2 + l4) + 1) / 2), .retAddr 0]) (dk D184 24 rfl) rfl nd184_48 rfl).trans ?_
      refine (r_goto (L' := [.long l0, .retAddr 0, .long (((l2 + l4) + 1) / 2), .retAddr 0, .long l4, .retAddr 0, .retAddr 0, .retAddr 0]) (dk D184 29 rfl) rfl nd184_7 rfl).trans ?_
      exact rfl
    · refine (r_ll (dk D184 25 rfl) rfl).trans ?_
      refine (r_lc (dk D184 26 rfl) cl1).trans ?_
      refine (r_lsub (dk D184 27 rfl)).trans ?_
      refine (r_ls (L' := [.long l0, .retAddr 0, .long l2, .retAddr 0, .long ((((l2 + l4) + 1) / 2) - 1), .retAddr 0, .long (((l2 + l4) + 1) / 2), .retAddr 0]) (dk D184 28 rfl) (Nat.le_of_ble_eq_true rfl) rfl).trans ?_
      refine (r_goto (L' := [.long l0, .retAddr 0, .long l2, .retAddr 0, .long ((((l2 + l4) + 1) / 2) - 1), .retAddr 0, .retAddr 0, .retAddr 0]) (dk D184 29 rfl) rfl nd184_7 rfl).trans ?_
      exact rfl
  · refine (r_lln (dk D184 30 rfl) rfl).trans ?_
    exact r_rel (dk D184 31 rfl) rt184
set_option maxRecDepth 20000 in
theorem D185 : dOK 185 [(0, .iload_n 1, 1), (1, .ifCond .ne 7, 3), (4, .iconst 0, 1), (5, .goto 18, 3), (8, .iload_n 1, 1), (9, .bipush 90, 2), (11, .if_icmp .ne 11, 3), (14, .iload_n 0, 1), (15, .sipush 180, 3), (18, .irem, 1), (19, .goto 4, 3), (22, .iload_n 0, 1), (23, .ireturn, 1)] = true := by decide +kernel
theorem E185_0 {d sl : Nat} {p : Nat → Nat} {I : Nat → Nat → Int32} {J : Nat → Nat → Int64} (a0 : Int32) (a1 : Int32)  : den d 185 [.int a0, .int a1] (S sl p I J) = (if a1 = 0 then some (some (.int 0), (S sl p I J)) else (if a1 = 90 then some (some (.int (a0 - a0 / 180 * 180)), (S sl p I J)) else some (some (.int a0), (S sl p I J)))) := by
  refine (show den d 185 [.int a0, .int a1] (S sl p I J) = ev d 185 0 [.int a0, .int a1] [] (S sl p I J) from rfl).trans ?_
  refine (r_iln (dk D185 0 rfl) rfl).trans ?_
  refine (r_ne0 (dk D185 1 rfl) rfl).trans (ite2 ?_ ?_)
  · refine (r_ic (dk D185 2 rfl) ci0).trans ?_
    refine (r_goto (L' := [.int a0, .int a1]) (dk D185 3 rfl) rfl nd185_23 rfl).trans ?_
    exact r_ret (dk D185 12 rfl) rt185
  · refine (r_iln (dk D185 4 rfl) rfl).trans ?_
    refine (r_bp (dk D185 5 rfl) cb90).trans ?_
    refine (r_ne (dk D185 6 rfl) rfl).trans (ite2 ?_ ?_)
    · refine (r_iln (dk D185 7 rfl) rfl).trans ?_
      refine (r_sp (dk D185 8 rfl) cs180).trans ?_
      refine (r_irem (dk D185 9 rfl) (by decide)).trans ?_
      refine (r_goto (L' := [.int a0, .int a1]) (dk D185 10 rfl) rfl nd185_23 rfl).trans ?_
      exact r_ret (dk D185 12 rfl) rt185
    · refine (r_iln (dk D185 11 rfl) rfl).trans ?_
      exact r_ret (dk D185 12 rfl) rt185
set_option maxRecDepth 20000 in
theorem D186 : dOK 186 [(0, .iload_n 1, 1), (1, .iload_n 2, 1), (2, .invokestatic 120, 3), (5, .sipush 180, 3), (8, .iadd, 1), (9, .istore_n 3, 1), (10, .aload_n 0, 1), (11, .iload_n 2, 1), (12, .invokestatic 111, 3), (15, .iload_n 3, 1), (16, .invokestatic 124, 3), (19, .imul, 1), (20, .sipush 1000, 3), (23, .idiv, 1), (24, .putfield 127, 3), (27, .aload_n 0, 1), (28, .iload_n 2, 1), (29, .invokestatic 111, 3), (32, .iload_n 3, 1), (33, .invokestatic 111, 3), (36, .imul, 1), (37, .sipush 1000, 3), (40, .idiv, 1), (41, .putfield 130, 3), (44, .aload_n 0, 1), (45, .iload_n 2, 1), (46, .invokestatic 124, 3), (49, .putfield 133, 3), (52, .return_, 1)] = true := by decide +kernel
theorem E186_0 {d sl : Nat} {p : Nat → Nat} {I : Nat → Nat → Int32} {J : Nat → Nat → Int64} (a1 : Int32) (a2 : Int32)  : den (d + 1) 186 [.ref 46, .int a1, .int a2] (S sl p I J) = evK (d + 1) 186 5 [.ref 46, .int a1, .int a2, .retAddr 0] [] (den d 185 [.int a1, .int a2] (S sl p I J)) := by
  refine (show den (d + 1) 186 [.ref 46, .int a1, .int a2] (S sl p I J) = ev (d + 1) 186 0 [.ref 46, .int a1, .int a2, .retAddr 0] [] (S sl p I J) from rfl).trans ?_
  refine (r_iln (dk D186 0 rfl) rfl).trans ?_
  refine (r_iln (dk D186 1 rfl) rfl).trans ?_
  exact r_cs (dk D186 2 rfl) ow186 pn12_120 c12_120 mf185 (Nat.le_of_ble_eq_true rfl) rfl rfl (Nat.le_of_ble_eq_true rfl) (Nat.le_of_ble_eq_true rfl)
theorem E186_5 {d sl : Nat} {p : Nat → Nat} {I : Nat → Nat → Int32} {J : Nat → Nat → Int64} (l1 : Int32) (l2 : Int32) (s0 : Int32)  : ev (d + 1) 186 5 [.ref 46, .int l1, .int l2, .retAddr 0] [.int s0] (S sl p I J) = evK (d + 1) 186 15 [.ref 46, .int l1, .int l2, .int (s0 + 180)] [.ref 46] (den d 182 [.int l2] (S sl p I J)) := by
  refine (r_sp (dk D186 3 rfl) cs180).trans ?_
  refine (r_iadd (dk D186 4 rfl)).trans ?_
  refine (r_isn (L' := [.ref 46, .int l1, .int l2, .int (s0 + 180)]) (dk D186 5 rfl) (Nat.le_of_ble_eq_true rfl) rfl).trans ?_
  refine (r_aln (dk D186 6 rfl) rfl).trans ?_
  refine (r_iln (dk D186 7 rfl) rfl).trans ?_
  exact r_cs (dk D186 8 rfl) ow186 pn12_111 c12_111 mf182 (Nat.le_of_ble_eq_true rfl) rfl rfl (Nat.le_of_ble_eq_true rfl) (Nat.le_of_ble_eq_true rfl)
theorem E186_15 {d sl : Nat} {p : Nat → Nat} {I : Nat → Nat → Int32} {J : Nat → Nat → Int64} (l1 : Int32) (l2 : Int32) (l3 : Int32) (s0 : Int32)  : ev (d + 1) 186 15 [.ref 46, .int l1, .int l2, .int l3] [.int s0, .ref 46] (S sl p I J) = evK (d + 1) 186 19 [.ref 46, .int l1, .int l2, .int l3] [.int s0, .ref 46] (den d 183 [.int l3] (S sl p I J)) := by
  refine (r_iln (dk D186 9 rfl) rfl).trans ?_
  exact r_cs (dk D186 10 rfl) ow186 pn12_124 c12_124 mf183 (Nat.le_of_ble_eq_true rfl) rfl rfl (Nat.le_of_ble_eq_true rfl) (Nat.le_of_ble_eq_true rfl)
theorem E186_19 {d sl : Nat} {p : Nat → Nat} {I : Nat → Nat → Int32} {J : Nat → Nat → Int64} (l1 : Int32) (l2 : Int32) (l3 : Int32) (s0 : Int32) (s1 : Int32)  : ev (d + 1) 186 19 [.ref 46, .int l1, .int l2, .int l3] [.int s0, .int s1, .ref 46] (S sl p I J) = evK (d + 1) 186 32 [.ref 46, .int l1, .int l2, .int l3] [.ref 46] (den d 182 [.int l2] (S sl p (up2 I 46 23 ((s1 * s0) / 1000)) J)) := by
  refine (r_imul (dk D186 11 rfl)).trans ?_
  refine (r_sp (dk D186 12 rfl) cs1000).trans ?_
  refine (r_idiv (dk D186 13 rfl) (by decide)).trans ?_
  refine (r_putI (dk D186 14 rfl) ow186 w12_127 ob_46).trans ?_
  refine (r_aln (dk D186 15 rfl) rfl).trans ?_
  refine (r_iln (dk D186 16 rfl) rfl).trans ?_
  exact r_cs (dk D186 17 rfl) ow186 pn12_111 c12_111 mf182 (Nat.le_of_ble_eq_true rfl) rfl rfl (Nat.le_of_ble_eq_true rfl) (Nat.le_of_ble_eq_true rfl)
theorem E186_32 {d sl : Nat} {p : Nat → Nat} {I : Nat → Nat → Int32} {J : Nat → Nat → Int64} (l1 : Int32) (l2 : Int32) (l3 : Int32) (s0 : Int32)  : ev (d + 1) 186 32 [.ref 46, .int l1, .int l2, .int l3] [.int s0, .ref 46] (S sl p I J) = evK (d + 1) 186 36 [.ref 46, .int l1, .int l2, .int l3] [.int s0, .ref 46] (den d 182 [.int l3] (S sl p I J)) := by
  refine (r_iln (dk D186 18 rfl) rfl).trans ?_
  exact r_cs (dk D186 19 rfl) ow186 pn12_111 c12_111 mf182 (Nat.le_of_ble_eq_true rfl) rfl rfl (Nat.le_of_ble_eq_true rfl) (Nat.le_of_ble_eq_true rfl)
theorem E186_36 {d sl : Nat} {p : Nat → Nat} {I : Nat → Nat → Int32} {J : Nat → Nat → Int64} (l1 : Int32) (l2 : Int32) (l3 : Int32) (s0 : Int32) (s1 : Int32)  : ev (d + 1) 186 36 [.ref 46, .int l1, .int l2, .int l3] [.int s0, .int s1, .ref 46] (S sl p I J) = evK (d + 1) 186 49 [.ref 46, .int l1, .int l2, .int l3] [.ref 46] (den d 183 [.int l2] (S sl p (up2 I 46 24 ((s1 * s0) / 1000)) J)) := by
  refine (r_imul (dk D186 20 rfl)).trans ?_
  refine (r_sp (dk D186 21 rfl) cs1000).trans ?_
  refine (r_idiv (dk D186 22 rfl) (by decide)).trans ?_
  refine (r_putI (dk D186 23 rfl) ow186 w12_130 ob_46).trans ?_
  refine (r_aln (dk D186 24 rfl) rfl).trans ?_
  refine (r_iln (dk D186 25 rfl) rfl).trans ?_
  exact r_cs (dk D186 26 rfl) ow186 pn12_124 c12_124 mf183 (Nat.le_of_ble_eq_true rfl) rfl rfl (Nat.le_of_ble_eq_true rfl) (Nat.le_of_ble_eq_true rfl)
theorem E186_49 {d sl : Nat} {p : Nat → Nat} {I : Nat → Nat → Int32} {J : Nat → Nat → Int64} (l1 : Int32) (l2 : Int32) (l3 : Int32) (s0 : Int32)  : ev d 186 49 [.ref 46, .int l1, .int l2, .int l3] [.int s0, .ref 46] (S sl p I J) = some (none, (S sl p (up2 I 46 25 s0) J)) := by
  refine (r_putI (dk D186 27 rfl) ow186 w12_133 ob_46).trans ?_
  exact r_rev (dk D186 28 rfl) rt186
set_option maxRecDepth 20000 in
theorem D187 : dOK 187 [(0, .aload_n 0, 1), (1, .iload_n 2, 1), (2, .invokestatic 124, 3), (5, .iload_n 1, 1), (6, .invokestatic 124, 3), (9, .imul, 1), (10, .sipush 1000, 3), (13, .idiv, 1), (14, .putfield 127, 3), (17, .aload_n 0, 1), (18, .iload_n 2, 1), (19, .invokestatic 124, 3), (22, .iload_n 1, 1), (23, .invokestatic 111, 3), (26, .imul, 1), (27, .sipush 1000, 3), (30, .idiv, 1), (31, .putfield 130, 3), (34, .aload_n 0, 1), (35, .iload_n 2, 1), (36, .invokestatic 111, 3), (39, .putfield 133, 3), (42, .return_, 1)] = true := by decide +kernel
theorem E187_0 {d sl : Nat} {p : Nat → Nat} {I : Nat → Nat → Int32} {J : Nat → Nat → Int64} (a1 : Int32) (a2 : Int32)  : den (d + 1) 187 [.ref 46, .int a1, .int a2] (S sl p I J) = evK (d + 1) 187 5 [.ref 46, .int a1, .int a2] [.ref 46] (den d 183 [.int a2] (S sl p I J)) := by
  refine (show den (d + 1) 187 [.ref 46, .int a1, .int a2] (S sl p I J) = ev (d + 1) 187 0 [.ref 46, .int a1, .int a2] [] (S sl p I J) from rfl).trans ?_
  refine (r_aln (dk D187 0 rfl) rfl).trans ?_
  refine (r_iln (dk D187 1 rfl) rfl).trans ?_
  exact r_cs (dk D187 2 rfl) ow187 pn12_124 c12_124 mf183 (Nat.le_of_ble_eq_true rfl) rfl rfl (Nat.le_of_ble_eq_true rfl) (Nat.le_of_ble_eq_true rfl)
theorem E187_5 {d sl : Nat} {p : Nat → Nat} {I : Nat → Nat → Int32} {J : Nat → Nat → Int64} (l1 : Int32) (l2 : Int32) (s0 : Int32)  : ev (d + 1) 187 5 [.ref 46, .int l1, .int l2] [.int s0, .ref 46] (S sl p I J) = evK (d + 1) 187 9 [.ref 46, .int l1, .int l2] [.int s0, .ref 46] (den d 183 [.int l1] (S sl p I J)) := by
  refine (r_iln (dk D187 3 rfl) rfl).trans ?_
  exact r_cs (dk D187 4 rfl) ow187 pn12_124 c12_124 mf183 (Nat.le_of_ble_eq_true rfl) rfl rfl (Nat.le_of_ble_eq_true rfl) (Nat.le_of_ble_eq_true rfl)
theorem E187_9 {d sl : Nat} {p : Nat → Nat} {I : Nat → Nat → Int32} {J : Nat → Nat → Int64} (l1 : Int32) (l2 : Int32) (s0 : Int32) (s1 : Int32)  : ev (d + 1) 187 9 [.ref 46, .int l1, .int l2] [.int s0, .int s1, .ref 46] (S sl p I J) = evK (d + 1) 187 22 [.ref 46, .int l1, .int l2] [.ref 46] (den d 183 [.int l2] (S sl p (up2 I 46 23 ((s1 * s0) / 1000)) J)) := by
  refine (r_imul (dk D187 5 rfl)).trans ?_
  refine (r_sp (dk D187 6 rfl) cs1000).trans ?_
  refine (r_idiv (dk D187 7 rfl) (by decide)).trans ?_
  refine (r_putI (dk D187 8 rfl) ow187 w12_127 ob_46).trans ?_
  refine (r_aln (dk D187 9 rfl) rfl).trans ?_
  refine (r_iln (dk D187 10 rfl) rfl).trans ?_
  exact r_cs (dk D187 11 rfl) ow187 pn12_124 c12_124 mf183 (Nat.le_of_ble_eq_true rfl) rfl rfl (Nat.le_of_ble_eq_true rfl) (Nat.le_of_ble_eq_true rfl)
theorem E187_22 {d sl : Nat} {p : Nat → Nat} {I : Nat → Nat → Int32} {J : Nat → Nat → Int64} (l1 : Int32) (l2 : Int32) (s0 : Int32)  : ev (d + 1) 187 22 [.ref 46, .int l1, .int l2] [.int s0, .ref 46] (S sl p I J) = evK (d + 1) 187 26 [.ref 46, .int l1, .int l2] [.int s0, .ref 46] (den d 182 [.int l1] (S sl p I J)) := by
  refine (r_iln (dk D187 12 rfl) rfl).trans ?_
  exact r_cs (dk D187 13 rfl) ow187 pn12_111 c12_111 mf182 (Nat.le_of_ble_eq_true rfl) rfl rfl (Nat.le_of_ble_eq_true rfl) (Nat.le_of_ble_eq_true rfl)
theorem E187_26 {d sl : Nat} {p : Nat → Nat} {I : Nat → Nat → Int32} {J : Nat → Nat → Int64} (l1 : Int32) (l2 : Int32) (s0 : Int32) (s1 : Int32)  : ev (d + 1) 187 26 [.ref 46, .int l1, .int l2] [.int s0, .int s1, .ref 46] (S sl p I J) = evK (d + 1) 187 39 [.ref 46, .int l1, .int l2] [.ref 46] (den d 182 [.int l2] (S sl p (up2 I 46 24 ((s1 * s0) / 1000)) J)) := by
  refine (r_imul (dk D187 14 rfl)).trans ?_
  refine (r_sp (dk D187 15 rfl) cs1000).trans ?_
  refine (r_idiv (dk D187 16 rfl) (by decide)).trans ?_
  refine (r_putI (dk D187 17 rfl) ow187 w12_130 ob_46).trans ?_
  refine (r_aln (dk D187 18 rfl) rfl).trans ?_
  refine (r_iln (dk D187 19 rfl) rfl).trans ?_
  exact r_cs (dk D187 20 rfl) ow187 pn12_111 c12_111 mf182 (Nat.le_of_ble_eq_true rfl) rfl rfl (Nat.le_of_ble_eq_true rfl) (Nat.le_of_ble_eq_true rfl)
theorem E187_39 {d sl : Nat} {p : Nat → Nat} {I : Nat → Nat → Int32} {J : Nat → Nat → Int64} (l1 : Int32) (l2 : Int32) (s0 : Int32)  : ev d 187 39 [.ref 46, .int l1, .int l2] [.int s0, .ref 46] (S sl p I J) = some (none, (S sl p (up2 I 46 25 s0) J)) := by
  refine (r_putI (dk D187 21 rfl) ow187 w12_133 ob_46).trans ?_
  exact r_rev (dk D187 22 rfl) rt187
set_option maxRecDepth 20000 in
theorem D188 : dOK 188 [(0, .lload_n 0, 1), (1, .lload 6, 2), (3, .lmul, 1), (4, .lload_n 2, 1), (5, .lload 8, 2), (7, .lmul, 1), (8, .ladd, 1), (9, .lload 4, 2), (11, .lload 10, 2), (13, .lmul, 1), (14, .ladd, 1), (15, .lreturn, 1)] = true := by decide +kernel
theorem E188_0 {d sl : Nat} {p : Nat → Nat} {I : Nat → Nat → Int32} {J : Nat → Nat → Int64} (a0 : Int64) (a1 : Int64) (a2 : Int64) (a3 : Int64) (a4 : Int64) (a5 : Int64)  : den d 188 [.long a0, .long a1, .long a2, .long a3, .long a4, .long a5] (S sl p I J) = some (some (.long (((a0 * a3) + (a1 * a4)) + (a2 * a5))), (S sl p I J)) := by
  refine (show den d 188 [.long a0, .long a1, .long a2, .long a3, .long a4, .long a5] (S sl p I J) = ev d 188 0 [.long a0, .retAddr 0, .long a1, .retAddr 0, .long a2, .retAddr 0, .long a3, .retAddr 0, .long a4, .retAddr 0, .long a5, .retAddr 0] [] (S sl p I J) from rfl).trans ?_
  refine (r_lln (dk D188 0 rfl) rfl).trans ?_
  refine (r_ll (dk D188 1 rfl) rfl).trans ?_
  refine (r_lmul (dk D188 2 rfl)).trans ?_
  refine (r_lln (dk D188 3 rfl) rfl).trans ?_
  refine (r_ll (dk D188 4 rfl) rfl).trans ?_
  refine (r_lmul (dk D188 5 rfl)).trans ?_
  refine (r_ladd (dk D188 6 rfl)).trans ?_
  refine (r_ll (dk D188 7 rfl) rfl).trans ?_
  refine (r_ll (dk D188 8 rfl) rfl).trans ?_
  refine (r_lmul (dk D188 9 rfl)).trans ?_
  refine (r_ladd (dk D188 10 rfl)).trans ?_
  exact r_rel (dk D188 11 rfl) rt188
set_option maxRecDepth 20000 in
theorem D189 : dOK 189 [(0, .lload_n 0, 1), (1, .lload_n 2, 1), (2, .lload 4, 2), (4, .lload_n 0, 1), (5, .lload_n 2, 1), (6, .lload 4, 2), (8, .invokestatic 136, 3), (11, .lreturn, 1)] = true := by decide +kernel
theorem E189_0 {d sl : Nat} {p : Nat → Nat} {I : Nat → Nat → Int32} {J : Nat → Nat → Int64} (a0 : Int64) (a1 : Int64) (a2 : Int64)  : den (d + 1) 189 [.long a0, .long a1, .long a2] (S sl p I J) = evK (d + 1) 189 11 [.long a0, .retAddr 0, .long a1, .retAddr 0, .long a2, .retAddr 0] [] (den d 188 [.long a0, .long a1, .long a2, .long a0, .long a1, .long a2] (S sl p I J)) := by
  refine (show den (d + 1) 189 [.long a0, .long a1, .long a2] (S sl p I J) = ev (d + 1) 189 0 [.long a0, .retAddr 0, .long a1, .retAddr 0, .long a2, .retAddr 0] [] (S sl p I J) from rfl).trans ?_
  refine (r_lln (dk D189 0 rfl) rfl).trans ?_
  refine (r_lln (dk D189 1 rfl) rfl).trans ?_
  refine (r_ll (dk D189 2 rfl) rfl).trans ?_
  refine (r_lln (dk D189 3 rfl) rfl).trans ?_
  refine (r_lln (dk D189 4 rfl) rfl).trans ?_
  refine (r_ll (dk D189 5 rfl) rfl).trans ?_
  exact r_cs (dk D189 6 rfl) ow189 pn12_136 c12_136 mf188 (Nat.le_of_ble_eq_true rfl) rfl rfl (Nat.le_of_ble_eq_true rfl) (Nat.le_of_ble_eq_true rfl)
theorem E189_11 {d sl : Nat} {p : Nat → Nat} {I : Nat → Nat → Int32} {J : Nat → Nat → Int64} (l0 : Int64) (l2 : Int64) (l4 : Int64) (s0 : Int64)  : ev d 189 11 [.long l0, .retAddr 0, .long l2, .retAddr 0, .long l4, .retAddr 0] [.long s0] (S sl p I J) = some (some (.long s0), (S sl p I J)) := by
  exact r_rel (dk D189 7 rfl) rt189
set_option maxRecDepth 20000 in
theorem D190 : dOK 190 [(0, .lload_n 0, 1), (1, .lload_n 0, 1), (2, .lmul, 1), (3, .ldc2_w 140, 3), (6, .lmul, 1), (7, .iload 4, 2), (9, .invokestatic 124, 3), (12, .iload 4, 2), (14, .invokestatic 124, 3), (17, .imul, 1), (18, .i2l, 1), (19, .lload_n 2, 1), (20, .lmul, 1), (21, .lcmp, 1), (22, .ifCond .lt 7, 3), (25, .iconst 1, 1), (26, .goto 4, 3), (29, .iconst 0, 1), (30, .ireturn, 1)] = true := by decide +kernel
theorem E190_0 {d sl : Nat} {p : Nat → Nat} {I : Nat → Nat → Int32} {J : Nat → Nat → Int64} (a0 : Int64) (a1 : Int64) (a2 : Int32)  : den (d + 1) 190 [.long a0, .long a1, .int a2] (S sl p I J) = evK (d + 1) 190 12 [.long a0, .retAddr 0, .long a1, .retAddr 0, .int a2] [.long ((a0 * a0) * 1000000)] (den d 183 [.int a2] (S sl p I J)) := by
  refine (show den (d + 1) 190 [.long a0, .long a1, .int a2] (S sl p I J) = ev (d + 1) 190 0 [.long a0, .retAddr 0, .long a1, .retAddr 0, .int a2] [] (S sl p I J) from rfl).trans ?_
  refine (r_lln (dk D190 0 rfl) rfl).trans ?_
  refine (r_lln (dk D190 1 rfl) rfl).trans ?_
  refine (r_lmul (dk D190 2 rfl)).trans ?_
  refine (r_ld2 (dk D190 3 rfl) ow190 kk12_140).trans ?_
  refine (r_lmul (dk D190 4 rfl)).trans ?_
  refine (r_il (dk D190 5 rfl) rfl).trans ?_
  exact r_cs (dk D190 6 rfl) ow190 pn12_124 c12_124 mf183 (Nat.le_of_ble_eq_true rfl) rfl rfl (Nat.le_of_ble_eq_true rfl) (Nat.le_of_ble_eq_true rfl)
theorem E190_12 {d sl : Nat} {p : Nat → Nat} {I : Nat → Nat → Int32} {J : Nat → Nat → Int64} (l0 : Int64) (l2 : Int64) (l4 : Int32) (s0 : Int32) (s1 : Int64)  : ev (d + 1) 190 12 [.long l0, .retAddr 0, .long l2, .retAddr 0, .int l4] [.int s0, .long s1] (S sl p I J) = evK (d + 1) 190 17 [.long l0, .retAddr 0, .long l2, .retAddr 0, .int l4] [.int s0, .long s1] (den d 183 [.int l4] (S sl p I J)) := by
  refine (r_il (dk D190 7 rfl) rfl).trans ?_
  exact r_cs (dk D190 8 rfl) ow190 pn12_124 c12_124 mf183 (Nat.le_of_ble_eq_true rfl) rfl rfl (Nat.le_of_ble_eq_true rfl) (Nat.le_of_ble_eq_true rfl)
theorem E190_17 {d sl : Nat} {p : Nat → Nat} {I : Nat → Nat → Int32} {J : Nat → Nat → Int64} (l0 : Int64) (l2 : Int64) (l4 : Int32) (s0 : Int32) (s1 : Int32) (s2 : Int64)  : ev d 190 17 [.long l0, .retAddr 0, .long l2, .retAddr 0, .int l4] [.int s0, .int s1, .long s2] (S sl p I J) = (if s2 < ((Int32.toInt64 (s1 * s0)) * l2) then some (some (.int 0), (S sl p I J)) else some (some (.int 1), (S sl p I J))) := by
  refine (r_imul (dk D190 9 rfl)).trans ?_
  refine (r_i2l (dk D190 10 rfl)).trans ?_
  refine (r_lln (dk D190 11 rfl) rfl).trans ?_
  refine (r_lmul (dk D190 12 rfl)).trans ?_
  refine (r_jlt (dk D190 13 rfl) (dk D190 14 rfl) rfl).trans (ite2 ?_ ?_)
  · refine (r_ic (dk D190 17 rfl) ci0).trans ?_
    exact r_rez (dk D190 18 rfl) rt190 (by decide)
  · refine (r_ic (dk D190 15 rfl) ci1).trans ?_
    refine (r_goto (L' := [.long l0, .retAddr 0, .long l2, .retAddr 0, .int l4]) (dk D190 16 rfl) rfl nd190_30 rfl).trans ?_
    exact r_rez (dk D190 18 rfl) rt190 (by decide)
set_option maxRecDepth 20000 in
theorem D191 : dOK 191 [(0, .iconst 0, 1), (1, .istore 4, 2), (3, .lload_n 0, 1), (4, .lload_n 2, 1), (5, .iload 4, 2), (7, .invokestatic 142, 3), (10, .ifCond .ne 9, 3), (13, .iinc 4 1, 3), (16, .goto (-13), 3), (19, .iload 4, 2), (21, .ireturn, 1)] = true := by decide +kernel
theorem E191_0 {d sl : Nat} {p : Nat → Nat} {I : Nat → Nat → Int32} {J : Nat → Nat → Int64} (a0 : Int64) (a1 : Int64)  : den d 191 [.long a0, .long a1] (S sl p I J) = ev d 191 3 [.long a0, .retAddr 0, .long a1, .retAddr 0, .int 0] [] (S sl p I J) := by
  refine (show den d 191 [.long a0, .long a1] (S sl p I J) = ev d 191 0 [.long a0, .retAddr 0, .long a1, .retAddr 0, .retAddr 0] [] (S sl p I J) from rfl).trans ?_
  refine (r_ic (dk D191 0 rfl) ci0).trans ?_
  refine (r_is (L' := [.long a0, .retAddr 0, .long a1, .retAddr 0, .int 0]) (dk D191 1 rfl) (Nat.le_of_ble_eq_true rfl) rfl).trans ?_
  exact rfl
theorem E191_3 {d sl : Nat} {p : Nat → Nat} {I : Nat → Nat → Int32} {J : Nat → Nat → Int64} (l0 : Int64) (l2 : Int64) (l4 : Int32)  : ev (d + 1) 191 3 [.long l0, .retAddr 0, .long l2, .retAddr 0, .int l4] [] (S sl p I J) = evK (d + 1) 191 10 [.long l0, .retAddr 0, .long l2, .retAddr 0, .int l4] [] (den d 190 [.long l0, .long l2, .int l4] (S sl p I J)) := by
  refine (r_lln (dk D191 2 rfl) rfl).trans ?_
  refine (r_lln (dk D191 3 rfl) rfl).trans ?_
  refine (r_il (dk D191 4 rfl) rfl).trans ?_
  exact r_cs (dk D191 5 rfl) ow191 pn12_142 c12_142 mf190 (Nat.le_of_ble_eq_true rfl) rfl rfl (Nat.le_of_ble_eq_true rfl) (Nat.le_of_ble_eq_true rfl)
theorem E191_10 {d sl : Nat} {p : Nat → Nat} {I : Nat → Nat → Int32} {J : Nat → Nat → Int64} (l0 : Int64) (l2 : Int64) (l4 : Int32) (s0 : Int32)  : ev d 191 10 [.long l0, .retAddr 0, .long l2, .retAddr 0, .int l4] [.int s0] (S sl p I J) = (if s0 = 0 then ev d 191 3 [.long l0, .retAddr 0, .long l2, .retAddr 0, .int (l4 + 1)] [] (S sl p I J) else some (some (.int l4), (S sl p I J))) := by
  refine (r_ne0 (dk D191 6 rfl) rfl).trans (ite2 ?_ ?_)
  · refine (r_inc (L' := [.long l0, .retAddr 0, .long l2, .retAddr 0, .int (l4 + 1)]) (dk D191 7 rfl) rfl rfl ci1 (Nat.le_of_ble_eq_true rfl) rfl).trans ?_
    refine (r_goto (L' := [.long l0, .retAddr 0, .long l2, .retAddr 0, .int (l4 + 1)]) (dk D191 8 rfl) rfl nd191_3 rfl).trans ?_
    exact rfl
  · refine (r_il (dk D191 9 rfl) rfl).trans ?_
    exact r_ret (dk D191 10 rfl) rt191
set_option maxRecDepth 20000 in
theorem D192 : dOK 192 [(0, .aload_n 0, 1), (1, .getfield 50, 3), (4, .iload_n 1, 1), (5, .iaload, 1), (6, .i2l, 1), (7, .aload_n 0, 1), (8, .getfield 53, 3), (11, .iload_n 1, 1), (12, .iaload, 1), (13, .i2l, 1), (14, .aload_n 0, 1), (15, .getfield 56, 3), (18, .iload_n 1, 1), (19, .iaload, 1), (20, .i2l, 1), (21, .aload_n 0, 1), (22, .getfield 50, 3), (25, .iload_n 2, 1), (26, .iaload, 1), (27, .i2l, 1), (28, .aload_n 0, 1), (29, .getfield 53, 3), (32, .iload_n 2, 1), (33, .iaload, 1), (34, .i2l, 1), (35, .aload_n 0, 1), (36, .getfield 56, 3), (39, .iload_n 2, 1), (40, .iaload, 1), (41, .i2l, 1), (42, .invokestatic 136, 3), (45, .lreturn, 1)] = true := by decide +kernel
theorem E192_0 {d sl : Nat} {p : Nat → Nat} {I : Nat → Nat → Int32} {J : Nat → Nat → Int64} (a1 : Int32) (a2 : Int32)  : den (d + 1) 192 [.ref 46, .int a1, .int a2] (S sl p I J) = ck (ixb 60 a1) (ck (ixb 60 a1) (ck (ixb 60 a1) (ck (ixb 60 a2) (ck (ixb 60 a2) (ck (ixb 60 a2) (evK (d + 1) 192 45 [.ref 46, .int a1, .int a2] [] (den d 188 [.long (Int32.toInt64 (I 54 (Int32.toNatClampNeg a1))), .long (Int32.toInt64 (I 55 (Int32.toNatClampNeg a1))), .long (Int32.toInt64 (I 56 (Int32.toNatClampNeg a1))), .long (Int32.toInt64 (I 54 (Int32.toNatClampNeg a2))), .long (Int32.toInt64 (I 55 (Int32.toNatClampNeg a2))), .long (Int32.toInt64 (I 56 (Int32.toNatClampNeg a2)))] (S sl p I J)))))))) := by
  refine (show den (d + 1) 192 [.ref 46, .int a1, .int a2] (S sl p I J) = ev (d + 1) 192 0 [.ref 46, .int a1, .int a2] [] (S sl p I J) from rfl).trans ?_
  refine (r_aln (dk D192 0 rfl) rfl).trans ?_
  refine (r_getR (dk D192 1 rfl) ow192 q12_50 ob_46 rfl).trans ?_
  refine (r_iln (dk D192 2 rfl) rfl).trans ?_
  refine (r_ild (dk D192 3 rfl) ar_54).trans (ck3 fun g1 => ?_)
  refine (r_i2l (dk D192 4 rfl)).trans ?_
  refine (r_aln (dk D192 5 rfl) rfl).trans ?_
  refine (r_getR (dk D192 6 rfl) ow192 q12_53 ob_46 rfl).trans ?_
  refine (r_iln (dk D192 7 rfl) rfl).trans ?_
  refine (r_ild (dk D192 8 rfl) ar_55).trans (ck3 fun g2 => ?_)
  refine (r_i2l (dk D192 9 rfl)).trans ?_
  refine (r_aln (dk D192 10 rfl) rfl).trans ?_
  refine (r_getR (dk D192 11 rfl) ow192 q12_56 ob_46 rfl).trans ?_
  refine (r_iln (dk D192 12 rfl) rfl).trans ?_
  refine (r_ild (dk D192 13 rfl) ar_56).trans (ck3 fun g3 => ?_)
  refine (r_i2l (dk D192 14 rfl)).trans ?_
  refine (r_aln (dk D192 15 rfl) rfl).trans ?_
  refine (r_getR (dk D192 16 rfl) ow192 q12_50 ob_46 rfl).trans ?_
  refine (r_iln (dk D192 17 rfl) rfl).trans ?_
  refine (r_ild (dk D192 18 rfl) ar_54).trans (ck3 fun g4 => ?_)
  refine (r_i2l (dk D192 19 rfl)).trans ?_
  refine (r_aln (dk D192 20 rfl) rfl).trans ?_
  refine (r_getR (dk D192 21 rfl) ow192 q12_53 ob_46 rfl).trans ?_
  refine (r_iln (dk D192 22 rfl) rfl).trans ?_
  refine (r_ild (dk D192 23 rfl) ar_55).trans (ck3 fun g5 => ?_)
  refine (r_i2l (dk D192 24 rfl)).trans ?_
  refine (r_aln (dk D192 25 rfl) rfl).trans ?_
  refine (r_getR (dk D192 26 rfl) ow192 q12_56 ob_46 rfl).trans ?_
  refine (r_iln (dk D192 27 rfl) rfl).trans ?_
  refine (r_ild (dk D192 28 rfl) ar_56).trans (ck3 fun g6 => ?_)
  refine (r_i2l (dk D192 29 rfl)).trans ?_
  exact r_cs (dk D192 30 rfl) ow192 pn12_136 c12_136 mf188 (Nat.le_of_ble_eq_true rfl) rfl rfl (Nat.le_of_ble_eq_true rfl) (Nat.le_of_ble_eq_true rfl)
theorem E192_45 {d sl : Nat} {p : Nat → Nat} {I : Nat → Nat → Int32} {J : Nat → Nat → Int64} (l1 : Int32) (l2 : Int32) (s0 : Int64)  : ev d 192 45 [.ref 46, .int l1, .int l2] [.long s0] (S sl p I J) = some (some (.long s0), (S sl p I J)) := by
  exact r_rel (dk D192 31 rfl) rt192
set_option maxRecDepth 20000 in
theorem D193 : dOK 193 [(0, .aload_n 0, 1), (1, .getfield 50, 3), (4, .iload_n 1, 1), (5, .iaload, 1), (6, .i2l, 1), (7, .aload_n 0, 1), (8, .getfield 53, 3), (11, .iload_n 1, 1), (12, .iaload, 1), (13, .i2l, 1), (14, .aload_n 0, 1), (15, .getfield 56, 3), (18, .iload_n 1, 1), (19, .iaload, 1), (20, .i2l, 1), (21, .invokestatic 146, 3), (24, .lreturn, 1)] = true := by decide +kernel
theorem E193_0 {d sl : Nat} {p : Nat → Nat} {I : Nat → Nat → Int32} {J : Nat → Nat → Int64} (a1 : Int32)  : den (d + 1) 193 [.ref 46, .int a1] (S sl p I J) = ck (ixb 60 a1) (ck (ixb 60 a1) (ck (ixb 60 a1) (evK (d + 1) 193 24 [.ref 46, .int a1] [] (den d 189 [.long (Int32.toInt64 (I 54 (Int32.toNatClampNeg a1))), .long (Int32.toInt64 (I 55 (Int32.toNatClampNeg a1))), .long (Int32.toInt64 (I 56 (Int32.toNatClampNeg a1)))] (S sl p I J))))) := by
  refine (show den (d + 1) 193 [.ref 46, .int a1] (S sl p I J) = ev (d + 1) 193 0 [.ref 46, .int a1] [] (S sl p I J) from rfl).trans ?_
  refine (r_aln (dk D193 0 rfl) rfl).trans ?_
  refine (r_getR (dk D193 1 rfl) ow193 q12_50 ob_46 rfl).trans ?_
  refine (r_iln (dk D193 2 rfl) rfl).trans ?_
  refine (r_ild (dk D193 3 rfl) ar_54).trans (ck3 fun g1 => ?_)
  refine (r_i2l (dk D193 4 rfl)).trans ?_
  refine (r_aln (dk D193 5 rfl) rfl).trans ?_
  refine (r_getR (dk D193 6 rfl) ow193 q12_53 ob_46 rfl).trans ?_
  refine (r_iln (dk D193 7 rfl) rfl).trans ?_
  refine (r_ild (dk D193 8 rfl) ar_55).trans (ck3 fun g2 => ?_)
  refine (r_i2l (dk D193 9 rfl)).trans ?_
  refine (r_aln (dk D193 10 rfl) rfl).trans ?_
  refine (r_getR (dk D193 11 rfl) ow193 q12_56 ob_46 rfl).trans ?_
  refine (r_iln (dk D193 12 rfl) rfl).trans ?_
  refine (r_ild (dk D193 13 rfl) ar_56).trans (ck3 fun g3 => ?_)
  refine (r_i2l (dk D193 14 rfl)).trans ?_
  exact r_cs (dk D193 15 rfl) ow193 pn12_146 c12_146 mf189 (Nat.le_of_ble_eq_true rfl) rfl rfl (Nat.le_of_ble_eq_true rfl) (Nat.le_of_ble_eq_true rfl)
theorem E193_24 {d sl : Nat} {p : Nat → Nat} {I : Nat → Nat → Int32} {J : Nat → Nat → Int64} (l1 : Int32) (s0 : Int64)  : ev d 193 24 [.ref 46, .int l1] [.long s0] (S sl p I J) = some (some (.long s0), (S sl p I J)) := by
  exact r_rel (dk D193 16 rfl) rt193
set_option maxRecDepth 20000 in
theorem D194 : dOK 194 [(0, .aload_n 0, 1), (1, .iload_n 1, 1), (2, .iload_n 2, 1), (3, .invokevirtual 150, 3), (6, .aload_n 0, 1), (7, .iload_n 1, 1), (8, .invokevirtual 154, 3), (11, .aload_n 0, 1), (12, .iload_n 2, 1), (13, .invokevirtual 154, 3), (16, .lmul, 1), (17, .invokestatic 158, 3), (20, .ireturn, 1)] = true := by decide +kernel
theorem E194_0 {d sl : Nat} {p : Nat → Nat} {I : Nat → Nat → Int32} {J : Nat → Nat → Int64} (a1 : Int32) (a2 : Int32)  : den (d + 1) 194 [.ref 46, .int a1, .int a2] (S sl p I J) = evK (d + 1) 194 6 [.ref 46, .int a1, .int a2] [] (den d 192 [.ref 46, .int a1, .int a2] (S sl p I J)) := by
  refine (show den (d + 1) 194 [.ref 46, .int a1, .int a2] (S sl p I J) = ev (d + 1) 194 0 [.ref 46, .int a1, .int a2] [] (S sl p I J) from rfl).trans ?_
  refine (r_aln (dk D194 0 rfl) rfl).trans ?_
  refine (r_iln (dk D194 1 rfl) rfl).trans ?_
  refine (r_iln (dk D194 2 rfl) rfl).trans ?_
  exact r_cv (dk D194 3 rfl) ow194 c12_150 mf192 (Nat.le_of_ble_eq_true rfl) rfl rfl (Nat.le_of_ble_eq_true rfl) (Nat.le_of_ble_eq_true rfl) ob_46
theorem E194_6 {d sl : Nat} {p : Nat → Nat} {I : Nat → Nat → Int32} {J : Nat → Nat → Int64} (l1 : Int32) (l2 : Int32) (s0 : Int64)  : ev (d + 1) 194 6 [.ref 46, .int l1, .int l2] [.long s0] (S sl p I J) = evK (d + 1) 194 11 [.ref 46, .int l1, .int l2] [.long s0] (den d 193 [.ref 46, .int l1] (S sl p I J)) := by
  refine (r_aln (dk D194 4 rfl) rfl).trans ?_
  refine (r_iln (dk D194 5 rfl) rfl).trans ?_
  exact r_cv (dk D194 6 rfl) ow194 c12_154 mf193 (Nat.le_of_ble_eq_true rfl) rfl rfl (Nat.le_of_ble_eq_true rfl) (Nat.le_of_ble_eq_true rfl) ob_46
theorem E194_11 {d sl : Nat} {p : Nat → Nat} {I : Nat → Nat → Int32} {J : Nat → Nat → Int64} (l1 : Int32) (l2 : Int32) (s0 : Int64) (s1 : Int64)  : ev (d + 1) 194 11 [.ref 46, .int l1, .int l2] [.long s0, .long s1] (S sl p I J) = evK (d + 1) 194 16 [.ref 46, .int l1, .int l2] [.long s0, .long s1] (den d 193 [.ref 46, .int l2] (S sl p I J)) := by
  refine (r_aln (dk D194 7 rfl) rfl).trans ?_
  refine (r_iln (dk D194 8 rfl) rfl).trans ?_
  exact r_cv (dk D194 9 rfl) ow194 c12_154 mf193 (Nat.le_of_ble_eq_true rfl) rfl rfl (Nat.le_of_ble_eq_true rfl) (Nat.le_of_ble_eq_true rfl) ob_46
theorem E194_16 {d sl : Nat} {p : Nat → Nat} {I : Nat → Nat → Int32} {J : Nat → Nat → Int64} (l1 : Int32) (l2 : Int32) (s0 : Int64) (s1 : Int64) (s2 : Int64)  : ev (d + 1) 194 16 [.ref 46, .int l1, .int l2] [.long s0, .long s1, .long s2] (S sl p I J) = evK (d + 1) 194 20 [.ref 46, .int l1, .int l2] [] (den d 191 [.long s2, .long (s1 * s0)] (S sl p I J)) := by
  refine (r_lmul (dk D194 10 rfl)).trans ?_
  exact r_cs (dk D194 11 rfl) ow194 pn12_158 c12_158 mf191 (Nat.le_of_ble_eq_true rfl) rfl rfl (Nat.le_of_ble_eq_true rfl) (Nat.le_of_ble_eq_true rfl)
theorem E194_20 {d sl : Nat} {p : Nat → Nat} {I : Nat → Nat → Int32} {J : Nat → Nat → Int64} (l1 : Int32) (l2 : Int32) (s0 : Int32)  : ev d 194 20 [.ref 46, .int l1, .int l2] [.int s0] (S sl p I J) = some (some (.int s0), (S sl p I J)) := by
  exact r_ret (dk D194 12 rfl) rt194
set_option maxRecDepth 20000 in
theorem D195 : dOK 195 [(0, .aload_n 0, 1), (1, .iload_n 1, 1), (2, .iload_n 2, 1), (3, .invokevirtual 150, 3), (6, .aload_n 0, 1), (7, .iload_n 1, 1), (8, .invokevirtual 154, 3), (11, .aload_n 0, 1), (12, .iload_n 2, 1), (13, .invokevirtual 154, 3), (16, .lmul, 1), (17, .iload_n 3, 1), (18, .invokestatic 142, 3), (21, .ireturn, 1)] = true := by decide +kernel
theorem E195_0 {d sl : Nat} {p : Nat → Nat} {I : Nat → Nat → Int32} {J : Nat → Nat → Int64} (a1 : Int32) (a2 : Int32) (a3 : Int32)  : den (d + 1) 195 [.ref 46, .int a1, .int a2, .int a3] (S sl p I J) = evK (d + 1) 195 6 [.ref 46, .int a1, .int a2, .int a3] [] (den d 192 [.ref 46, .int a1, .int a2] (S sl p I J)) := by
  refine (show den (d + 1) 195 [.ref 46, .int a1, .int a2, .int a3] (S sl p I J) = ev (d + 1) 195 0 [.ref 46, .int a1, .int a2, .int a3] [] (S sl p I J) from rfl).trans ?_
  refine (r_aln (dk D195 0 rfl) rfl).trans ?_
  refine (r_iln (dk D195 1 rfl) rfl).trans ?_
  refine (r_iln (dk D195 2 rfl) rfl).trans ?_
  exact r_cv (dk D195 3 rfl) ow195 c12_150 mf192 (Nat.le_of_ble_eq_true rfl) rfl rfl (Nat.le_of_ble_eq_true rfl) (Nat.le_of_ble_eq_true rfl) ob_46
theorem E195_6 {d sl : Nat} {p : Nat → Nat} {I : Nat → Nat → Int32} {J : Nat → Nat → Int64} (l1 : Int32) (l2 : Int32) (l3 : Int32) (s0 : Int64)  : ev (d + 1) 195 6 [.ref 46, .int l1, .int l2, .int l3] [.long s0] (S sl p I J) = evK (d + 1) 195 11 [.ref 46, .int l1, .int l2, .int l3] [.long s0] (den d 193 [.ref 46, .int l1] (S sl p I J)) := by
  refine (r_aln (dk D195 4 rfl) rfl).trans ?_
  refine (r_iln (dk D195 5 rfl) rfl).trans ?_
  exact r_cv (dk D195 6 rfl) ow195 c12_154 mf193 (Nat.le_of_ble_eq_true rfl) rfl rfl (Nat.le_of_ble_eq_true rfl) (Nat.le_of_ble_eq_true rfl) ob_46
theorem E195_11 {d sl : Nat} {p : Nat → Nat} {I : Nat → Nat → Int32} {J : Nat → Nat → Int64} (l1 : Int32) (l2 : Int32) (l3 : Int32) (s0 : Int64) (s1 : Int64)  : ev (d + 1) 195 11 [.ref 46, .int l1, .int l2, .int l3] [.long s0, .long s1] (S sl p I J) = evK (d + 1) 195 16 [.ref 46, .int l1, .int l2, .int l3] [.long s0, .long s1] (den d 193 [.ref 46, .int l2] (S sl p I J)) := by
  refine (r_aln (dk D195 7 rfl) rfl).trans ?_
  refine (r_iln (dk D195 8 rfl) rfl).trans ?_
  exact r_cv (dk D195 9 rfl) ow195 c12_154 mf193 (Nat.le_of_ble_eq_true rfl) rfl rfl (Nat.le_of_ble_eq_true rfl) (Nat.le_of_ble_eq_true rfl) ob_46
theorem E195_16 {d sl : Nat} {p : Nat → Nat} {I : Nat → Nat → Int32} {J : Nat → Nat → Int64} (l1 : Int32) (l2 : Int32) (l3 : Int32) (s0 : Int64) (s1 : Int64) (s2 : Int64)  : ev (d + 1) 195 16 [.ref 46, .int l1, .int l2, .int l3] [.long s0, .long s1, .long s2] (S sl p I J) = evK (d + 1) 195 21 [.ref 46, .int l1, .int l2, .int l3] [] (den d 190 [.long s2, .long (s1 * s0), .int l3] (S sl p I J)) := by
  refine (r_lmul (dk D195 10 rfl)).trans ?_
  refine (r_iln (dk D195 11 rfl) rfl).trans ?_
  exact r_cs (dk D195 12 rfl) ow195 pn12_142 c12_142 mf190 (Nat.le_of_ble_eq_true rfl) rfl rfl (Nat.le_of_ble_eq_true rfl) (Nat.le_of_ble_eq_true rfl)
theorem E195_21 {d sl : Nat} {p : Nat → Nat} {I : Nat → Nat → Int32} {J : Nat → Nat → Int64} (l1 : Int32) (l2 : Int32) (l3 : Int32) (s0 : Int32)  : ev d 195 21 [.ref 46, .int l1, .int l2, .int l3] [.int s0] (S sl p I J) = ck (decide (s0 = 0 ∨ s0 = 1)) (some (some (.int s0), (S sl p I J))) := by
  exact r_rezc (dk D195 13 rfl) rt195
set_option maxRecDepth 20000 in
theorem D196 : dOK 196 [(0, .aload_n 0, 1), (1, .getfield 50, 3), (4, .iload_n 1, 1), (5, .iaload, 1), (6, .i2l, 1), (7, .aload_n 0, 1), (8, .getfield 53, 3), (11, .iload_n 1, 1), (12, .iaload, 1), (13, .i2l, 1), (14, .aload_n 0, 1), (15, .getfield 56, 3), (18, .iload_n 1, 1), (19, .iaload, 1), (20, .i2l, 1), (21, .lload_n 2, 1), (22, .lload 4, 2), (24, .lload 6, 2), (26, .invokestatic 136, 3), (29, .lstore 8, 2), (31, .lload 8, 2), (33, .lconst 0, 1), (34, .lcmp, 1), (35, .ifCond .ne 12, 3), (38, .sipush 1000, 3), (41, .aload_n 0, 1), (42, .getfield 16, 3), (45, .imul, 1), (46, .ireturn, 1), (47, .ldc2_w 162, 3), (50, .aload_n 0, 1), (51, .getfield 16, 3), (54, .i2l, 1), (55, .lmul, 1), (56, .ldc2_w 140, 3), (59, .aload_n 0, 1), (60, .iload_n 1, 1), (61, .invokevirtual 154, 3), (64, .lmul, 1), (65, .lload_n 2, 1), (66, .lload 4, 2), (68, .lload 6, 2), (70, .invokestatic 146, 3), (73, .lmul, 1), (74, .lload 8, 2), (76, .lload 8, 2), (78, .lmul, 1), (79, .ldiv, 1), (80, .invokestatic 164, 3), (83, .invokestatic 168, 3), (86, .l2i, 1), (87, .ireturn, 1)] = true := by decide +kernel
theorem E196_0 {d sl : Nat} {p : Nat → Nat} {I : Nat → Nat → Int32} {J : Nat → Nat → Int64} (a1 : Int32) (a2 : Int64) (a3 : Int64) (a4 : Int64)  : den (d + 1) 196 [.ref 46, .int a1, .long a2, .long a3, .long a4] (S sl p I J) = ck (ixb 60 a1) (ck (ixb 60 a1) (ck (ixb 60 a1) (evK (d + 1) 196 29 [.ref 46, .int a1, .long a2, .retAddr 0, .long a3, .retAddr 0, .long a4, .retAddr 0, .retAddr 0, .retAddr 0] [] (den d 188 [.long (Int32.toInt64 (I 54 (Int32.toNatClampNeg a1))), .long (Int32.toInt64 (I 55 (Int32.toNatClampNeg a1))), .long (Int32.toInt64 (I 56 (Int32.toNatClampNeg a1))), .long a2, .long a3, .long a4] (S sl p I J))))) := by
  refine (show den (d + 1) 196 [.ref 46, .int a1, .long a2, .long a3, .long a4] (S sl p I J) = ev (d + 1) 196 0 [.ref 46, .int a1, .long a2, .retAddr 0, .long a3, .retAddr 0, .long a4, .retAddr 0, .retAddr 0, .retAddr 0] [] (S sl p I J) from rfl).trans ?_
  refine (r_aln (dk D196 0 rfl) rfl).trans ?_
  refine (r_getR (dk D196 1 rfl) ow196 q12_50 ob_46 rfl).trans ?_
  refine (r_iln (dk D196 2 rfl) rfl).trans ?_
  refine (r_ild (dk D196 3 rfl) ar_54).trans (ck3 fun g1 => ?_)
  refine (r_i2l (dk D196 4 rfl)).trans ?_
  refine (r_aln (dk D196 5 rfl) rfl).trans ?_
  refine (r_getR (dk D196 6 rfl) ow196 q12_53 ob_46 rfl).trans ?_
  refine (r_iln (dk D196 7 rfl) rfl).trans ?_
  refine (r_ild (dk D196 8 rfl) ar_55).trans (ck3 fun g2 => ?_)
  refine (r_i2l (dk D196 9 rfl)).trans ?_
  refine (r_aln (dk D196 10 rfl) rfl).trans ?_
  refine (r_getR (dk D196 11 rfl) ow196 q12_56 ob_46 rfl).trans ?_
  refine (r_iln (dk D196 12 rfl) rfl).trans ?_
  refine (r_ild (dk D196 13 rfl) ar_56).trans (ck3 fun g3 => ?_)
  refine (r_i2l (dk D196 14 rfl)).trans ?_
  refine (r_lln (dk D196 15 rfl) rfl).trans ?_
  refine (r_ll (dk D196 16 rfl) rfl).trans ?_
  refine (r_ll (dk D196 17 rfl) rfl).trans ?_
  exact r_cs (dk D196 18 rfl) ow196 pn12_136 c12_136 mf188 (Nat.le_of_ble_eq_true rfl) rfl rfl (Nat.le_of_ble_eq_true rfl) (Nat.le_of_ble_eq_true rfl)
theorem E196_29 {d sl : Nat} {p : Nat → Nat} {I : Nat → Nat → Int32} {J : Nat → Nat → Int64} (l1 : Int32) (l2 : Int64) (l4 : Int64) (l6 : Int64) (s0 : Int64)  : ev (d + 1) 196 29 [.ref 46, .int l1, .long l2, .retAddr 0, .long l4, .retAddr 0, .long l6, .retAddr 0, .retAddr 0, .retAddr 0] [.long s0] (S sl p I J) = (if s0 = 0 then some (some (.int (1000 * (I 46 5))), (S sl p I J)) else evK (d + 1) 196 64 [.ref 46, .int l1, .long l2, .retAddr 0, .long l4, .retAddr 0, .long l6, .retAddr 0, .long s0, .retAddr 0] [.long 1000000, .long (1000 * (Int32.toInt64 (I 46 5)))] (den d 193 [.ref 46, .int l1] (S sl p I J))) := by
  refine (r_ls (L' := [.ref 46, .int l1, .long l2, .retAddr 0, .long l4, .retAddr 0, .long l6, .retAddr 0, .long s0, .retAddr 0]) (dk D196 19 rfl) (Nat.le_of_ble_eq_true rfl) rfl).trans ?_
  refine (r_ll (dk D196 20 rfl) rfl).trans ?_
  refine (r_lc (dk D196 21 rfl) cl0).trans ?_
  refine (r_jne (dk D196 22 rfl) (dk D196 23 rfl) rfl).trans (ite2 ?_ ?_)
  · refine (r_sp (dk D196 24 rfl) cs1000).trans ?_
    refine (r_aln (dk D196 25 rfl) rfl).trans ?_
    refine (r_getI (dk D196 26 rfl) ow196 q12_16 ob_46).trans ?_
    refine (r_imul (dk D196 27 rfl)).trans ?_
    exact r_ret (dk D196 28 rfl) rt196
  · refine (r_ld2 (dk D196 29 rfl) ow196 kk12_162).trans ?_
    refine (r_aln (dk D196 30 rfl) rfl).trans ?_
    refine (r_getI (dk D196 31 rfl) ow196 q12_16 ob_46).trans ?_
    refine (r_i2l (dk D196 32 rfl)).trans ?_
    refine (r_lmul (dk D196 33 rfl)).trans ?_
    refine (r_ld2 (dk D196 34 rfl) ow196 kk12_140).trans ?_
    refine (r_aln (dk D196 35 rfl) rfl).trans ?_
    refine (r_iln (dk D196 36 rfl) rfl).trans ?_
    exact r_cv (dk D196 37 rfl) ow196 c12_154 mf193 (Nat.le_of_ble_eq_true rfl) rfl rfl (Nat.le_of_ble_eq_true rfl) (Nat.le_of_ble_eq_true rfl) ob_46
theorem E196_64 {d sl : Nat} {p : Nat → Nat} {I : Nat → Nat → Int32} {J : Nat → Nat → Int64} (l1 : Int32) (l2 : Int64) (l4 : Int64) (l6 : Int64) (l8 : Int64) (s0 : Int64) (s1 : Int64) (s2 : Int64)  : ev (d + 1) 196 64 [.ref 46, .int l1, .long l2, .retAddr 0, .long l4, .retAddr 0, .long l6, .retAddr 0, .long l8, .retAddr 0] [.long s0, .long s1, .long s2] (S sl p I J) = evK (d + 1) 196 73 [.ref 46, .int l1, .long l2, .retAddr 0, .long l4, .retAddr 0, .long l6, .retAddr 0, .long l8, .retAddr 0] [.long (s1 * s0), .long s2] (den d 189 [.long l2, .long l4, .long l6] (S sl p I J)) := by
  refine (r_lmul (dk D196 38 rfl)).trans ?_
  refine (r_lln (dk D196 39 rfl) rfl).trans ?_
  refine (r_ll (dk D196 40 rfl) rfl).trans ?_
  refine (r_ll (dk D196 41 rfl) rfl).trans ?_
  exact r_cs (dk D196 42 rfl) ow196 pn12_146 c12_146 mf189 (Nat.le_of_ble_eq_true rfl) rfl rfl (Nat.le_of_ble_eq_true rfl) (Nat.le_of_ble_eq_true rfl)
theorem E196_73 {d sl : Nat} {p : Nat → Nat} {I : Nat → Nat → Int32} {J : Nat → Nat → Int64} (l1 : Int32) (l2 : Int64) (l4 : Int64) (l6 : Int64) (l8 : Int64) (s0 : Int64) (s1 : Int64) (s2 : Int64)  : ev (d + 1) 196 73 [.ref 46, .int l1, .long l2, .retAddr 0, .long l4, .retAddr 0, .long l6, .retAddr 0, .long l8, .retAddr 0] [.long s0, .long s1, .long s2] (S sl p I J) = ck (!decide ((l8 * l8) = 0)) (evK (d + 1) 196 83 [.ref 46, .int l1, .long l2, .retAddr 0, .long l4, .retAddr 0, .long l6, .retAddr 0, .long l8, .retAddr 0] [.long s2] (den d 184 [.long ((s1 * s0) / (l8 * l8))] (S sl p I J))) := by
  refine (r_lmul (dk D196 43 rfl)).trans ?_
  refine (r_ll (dk D196 44 rfl) rfl).trans ?_
  refine (r_ll (dk D196 45 rfl) rfl).trans ?_
  refine (r_lmul (dk D196 46 rfl)).trans ?_
  refine (r_ldivc (dk D196 47 rfl)).trans (ck3 fun g1 => ?_)
  exact r_cs (dk D196 48 rfl) ow196 pn12_164 c12_164 mf184 (Nat.le_of_ble_eq_true rfl) rfl rfl (Nat.le_of_ble_eq_true rfl) (Nat.le_of_ble_eq_true rfl)
theorem E196_83 {d sl : Nat} {p : Nat → Nat} {I : Nat → Nat → Int32} {J : Nat → Nat → Int64} (l1 : Int32) (l2 : Int64) (l4 : Int64) (l6 : Int64) (l8 : Int64) (s0 : Int64) (s1 : Int64)  : ev (d + 1) 196 83 [.ref 46, .int l1, .long l2, .retAddr 0, .long l4, .retAddr 0, .long l6, .retAddr 0, .long l8, .retAddr 0] [.long s0, .long s1] (S sl p I J) = some (some (.int (Int64.toInt32 (if s0 < s1 then s0 else s1))), (S sl p I J)) := by
  refine (r_prm (st' := [.long (if s0 < s1 then s0 else s1)]) (dk D196 49 rfl) ow196 p12_168 (Nat.le_of_ble_eq_true rfl) rfl).trans ?_
  refine (r_l2i (dk D196 50 rfl)).trans ?_
  exact r_ret (dk D196 51 rfl) rt196
set_option maxRecDepth 20000 in
theorem D197 : dOK 197 [(0, .aload_n 0, 1), (1, .getfield 38, 3), (4, .iload_n 1, 1), (5, .iaload, 1), (6, .istore_n 2, 1), (7, .aload_n 0, 1), (8, .iload_n 1, 1), (9, .aload_n 0, 1), (10, .getfield 59, 3), (13, .iload_n 2, 1), (14, .iaload, 1), (15, .i2l, 1), (16, .aload_n 0, 1), (17, .getfield 62, 3), (20, .iload_n 2, 1), (21, .iaload, 1), (22, .i2l, 1), (23, .aload_n 0, 1), (24, .getfield 65, 3), (27, .iload_n 2, 1), (28, .iaload, 1), (29, .i2l, 1), (30, .invokevirtual 174, 3), (33, .ireturn, 1)] = true := by decide +kernel
theorem E197_0 {d sl : Nat} {p : Nat → Nat} {I : Nat → Nat → Int32} {J : Nat → Nat → Int64} (a1 : Int32)  : den (d + 1) 197 [.ref 46, .int a1] (S sl p I J) = ck (ixb 60 a1) (ck (ixb 6 (I 50 (Int32.toNatClampNeg a1))) (ck (ixb 6 (I 50 (Int32.toNatClampNeg a1))) (ck (ixb 6 (I 50 (Int32.toNatClampNeg a1))) (evK (d + 1) 197 33 [.ref 46, .int a1, .int (I 50 (Int32.toNatClampNeg a1))] [] (den d 196 [.ref 46, .int a1, .long (Int32.toInt64 (I 57 (Int32.toNatClampNeg (I 50 (Int32.toNatClampNeg a1))))), .long (Int32.toInt64 (I 58 (Int32.toNatClampNeg (I 50 (Int32.toNatClampNeg a1))))), .long (Int32.toInt64 (I 59 (Int32.toNatClampNeg (I 50 (Int32.toNatClampNeg a1)))))] (S sl p I J)))))) := by
  refine (show den (d + 1) 197 [.ref 46, .int a1] (S sl p I J) = ev (d + 1) 197 0 [.ref 46, .int a1, .retAddr 0] [] (S sl p I J) from rfl).trans ?_
  refine (r_aln (dk D197 0 rfl) rfl).trans ?_
  refine (r_getR (dk D197 1 rfl) ow197 q12_38 ob_46 rfl).trans ?_
  refine (r_iln (dk D197 2 rfl) rfl).trans ?_
  refine (r_ild (dk D197 3 rfl) ar_50).trans (ck3 fun g1 => ?_)
  refine (r_isn (L' := [.ref 46, .int a1, .int (I 50 (Int32.toNatClampNeg a1))]) (dk D197 4 rfl) (Nat.le_of_ble_eq_true rfl) rfl).trans ?_
  refine (r_aln (dk D197 5 rfl) rfl).trans ?_
  refine (r_iln (dk D197 6 rfl) rfl).trans ?_
  refine (r_aln (dk D197 7 rfl) rfl).trans ?_
  refine (r_getR (dk D197 8 rfl) ow197 q12_59 ob_46 rfl).trans ?_
  refine (r_iln (dk D197 9 rfl) rfl).trans ?_
  refine (r_ild (dk D197 10 rfl) ar_57).trans (ck3 fun g2 => ?_)
  refine (r_i2l (dk D197 11 rfl)).trans ?_
  refine (r_aln (dk D197 12 rfl) rfl).trans ?_
  refine (r_getR (dk D197 13 rfl) ow197 q12_62 ob_46 rfl).trans ?_
  refine (r_iln (dk D197 14 rfl) rfl).trans ?_
  refine (r_ild (dk D197 15 rfl) ar_58).trans (ck3 fun g3 => ?_)
  refine (r_i2l (dk D197 16 rfl)).trans ?_
  refine (r_aln (dk D197 17 rfl) rfl).trans ?_
  refine (r_getR (dk D197 18 rfl) ow197 q12_65 ob_46 rfl).trans ?_
  refine (r_iln (dk D197 19 rfl) rfl).trans ?_
  refine (r_ild (dk D197 20 rfl) ar_59).trans (ck3 fun g4 => ?_)
  refine (r_i2l (dk D197 21 rfl)).trans ?_
  exact r_cv (dk D197 22 rfl) ow197 c12_174 mf196 (Nat.le_of_ble_eq_true rfl) rfl rfl (Nat.le_of_ble_eq_true rfl) (Nat.le_of_ble_eq_true rfl) ob_46
theorem E197_33 {d sl : Nat} {p : Nat → Nat} {I : Nat → Nat → Int32} {J : Nat → Nat → Int64} (l1 : Int32) (l2 : Int32) (s0 : Int32)  : ev d 197 33 [.ref 46, .int l1, .int l2] [.int s0] (S sl p I J) = some (some (.int s0), (S sl p I J)) := by
  exact r_ret (dk D197 23 rfl) rt197
set_option maxRecDepth 20000 in
theorem D198 : dOK 198 [(0, .iload_n 1, 1), (1, .iconst 0, 1), (2, .sipush 359, 3), (5, .invokestatic 178, 3), (8, .ifCond .eq 23, 3), (11, .iload_n 2, 1), (12, .iconst 0, 1), (13, .bipush 90, 2), (15, .invokestatic 178, 3), (18, .ifCond .eq 13, 3), (21, .iload_n 3, 1), (22, .iconst 1, 1), (23, .ldc 182, 2), (25, .invokestatic 178, 3), (28, .ifCond .ne 9, 3), (31, .aload_n 0, 1), (32, .iconst 1, 1), (33, .invokevirtual 183, 3), (36, .ireturn, 1), (37, .aload_n 0, 1), (38, .getfield 186, 3), (41, .bipush 6, 2), (43, .if_icmp .ne 9, 3), (46, .aload_n 0, 1), (47, .iconst 3, 1), (48, .invokevirtual 183, 3), (51, .ireturn, 1), (52, .aload_n 0, 1), (53, .getfield 28, 3), (56, .aload_n 0, 1), (57, .getfield 186, 3), (60, .iload_n 1, 1), (61, .iastore, 1), (62, .aload_n 0, 1), (63, .getfield 32, 3), (66, .aload_n 0, 1), (67, .getfield 186, 3), (70, .iload_n 2, 1), (71, .iastore, 1), (72, .aload_n 0, 1), (73, .getfield 35, 3), (76, .aload_n 0, 1), (77, .getfield 186, 3), (80, .iload_n 3, 1), (81, .iastore, 1), (82, .aload_n 0, 1), (83, .iload_n 1, 1), (84, .iload_n 2, 1), (85, .invokevirtual 189, 3), (88, .aload_n 0, 1), (89, .getfield 59, 3), (92, .aload_n 0, 1), (93, .getfield 186, 3), (96, .aload_n 0, 1), (97, .getfield 127, 3), (100, .iastore, 1), (101, .aload_n 0, 1), (102, .getfield 62, 3), (105, .aload_n 0, 1), (106, .getfield 186, 3), (109, .aload_n 0, 1), (110, .getfield 130, 3), (113, .iastore, 1), (114, .aload_n 0, 1), (115, .getfield 65, 3), (118, .aload_n 0, 1), (119, .getfield 186, 3), (122, .aload_n 0, 1), (123, .getfield 133, 3), (126, .iastore, 1), (127, .aload_n 0, 1), (128, .dup, 1), (129, .getfield 186, 3), (132, .iconst 1, 1), (133, .iadd, 1), (134, .putfield 186, 3), (137, .aload_n 0, 1), (138, .aload_n 0, 1), (139, .getfield 186, 3), (142, .iconst 1, 1), (143, .isub, 1), (144, .invokevirtual 193, 3), (147, .ireturn, 1)] = true := by decide +kernel
theorem E198_0 {d sl : Nat} {p : Nat → Nat} {I : Nat → Nat → Int32} {J : Nat → Nat → Int64} (a1 : Int32) (a2 : Int32) (a3 : Int32)  : den (d + 1) 198 [.ref 46, .int a1, .int a2, .int a3] (S sl p I J) = evK (d + 1) 198 8 [.ref 46, .int a1, .int a2, .int a3] [] (den d 181 [.int a1, .int 0, .int 359] (S sl p I J)) := by
  refine (show den (d + 1) 198 [.ref 46, .int a1, .int a2, .int a3] (S sl p I J) = ev (d + 1) 198 0 [.ref 46, .int a1, .int a2, .int a3] [] (S sl p I J) from rfl).trans ?_
  refine (r_iln (dk D198 0 rfl) rfl).trans ?_
  refine (r_ic (dk D198 1 rfl) ci0).trans ?_
  refine (r_sp (dk D198 2 rfl) cs359).trans ?_
  exact r_cs (dk D198 3 rfl) ow198 pn12_178 c12_178 mf181 (Nat.le_of_ble_eq_true rfl) rfl rfl (Nat.le_of_ble_eq_true rfl) (Nat.le_of_ble_eq_true rfl)
theorem E198_8 {d sl : Nat} {p : Nat → Nat} {I : Nat → Nat → Int32} {J : Nat → Nat → Int64} (l1 : Int32) (l2 : Int32) (l3 : Int32) (s0 : Int32)  : ev (d + 1) 198 8 [.ref 46, .int l1, .int l2, .int l3] [.int s0] (S sl p I J) = (if s0 = 0 then ev (d + 1) 198 31 [.ref 46, .int l1, .int l2, .int l3] [] (S sl p I J) else evK (d + 1) 198 18 [.ref 46, .int l1, .int l2, .int l3] [] (den d 181 [.int l2, .int 0, .int 90] (S sl p I J))) := by
  refine (r_eq0 (dk D198 4 rfl) rfl).trans (ite2 ?_ ?_)
  · exact rfl
  · refine (r_iln (dk D198 5 rfl) rfl).trans ?_
    refine (r_ic (dk D198 6 rfl) ci0).trans ?_
    refine (r_bp (dk D198 7 rfl) cb90).trans ?_
    exact r_cs (dk D198 8 rfl) ow198 pn12_178 c12_178 mf181 (Nat.le_of_ble_eq_true rfl) rfl rfl (Nat.le_of_ble_eq_true rfl) (Nat.le_of_ble_eq_true rfl)
theorem E198_18 {d sl : Nat} {p : Nat → Nat} {I : Nat → Nat → Int32} {J : Nat → Nat → Int64} (l1 : Int32) (l2 : Int32) (l3 : Int32) (s0 : Int32)  : ev (d + 1) 198 18 [.ref 46, .int l1, .int l2, .int l3] [.int s0] (S sl p I J) = (if s0 = 0 then ev (d + 1) 198 31 [.ref 46, .int l1, .int l2, .int l3] [] (S sl p I J) else evK (d + 1) 198 28 [.ref 46, .int l1, .int l2, .int l3] [] (den d 181 [.int l3, .int 1, .int 100000] (S sl p I J))) := by
  refine (r_eq0 (dk D198 9 rfl) rfl).trans (ite2 ?_ ?_)
  · exact rfl
  · refine (r_iln (dk D198 10 rfl) rfl).trans ?_
    refine (r_ic (dk D198 11 rfl) ci1).trans ?_
    refine (r_ldc (dk D198 12 rfl) ow198 k12_182).trans ?_
    exact r_cs (dk D198 13 rfl) ow198 pn12_178 c12_178 mf181 (Nat.le_of_ble_eq_true rfl) rfl rfl (Nat.le_of_ble_eq_true rfl) (Nat.le_of_ble_eq_true rfl)
theorem E198_28 {d sl : Nat} {p : Nat → Nat} {I : Nat → Nat → Int32} {J : Nat → Nat → Int64} (l1 : Int32) (l2 : Int32) (l3 : Int32) (s0 : Int32)  : ev (d + 1) 198 28 [.ref 46, .int l1, .int l2, .int l3] [.int s0] (S sl p I J) = (if s0 = 0 then ev (d + 1) 198 31 [.ref 46, .int l1, .int l2, .int l3] [] (S sl p I J) else (if (I 46 1) = 6 then evK (d + 1) 198 51 [.ref 46, .int l1, .int l2, .int l3] [] (den d 178 [.ref 46, .int 3] (S sl p I J)) else ck (ixb 6 (I 46 1)) (ck (ixb 6 ((up2 I 47 (Int32.toNatClampNeg (I 46 1)) l1) 46 1)) (ck (ixb 6 ((up2 (up2 I 47 (Int32.toNatClampNeg (I 46 1)) l1) 48 (Int32.toNatClampNeg ((up2 I 47 (Int32.toNatClampNeg (I 46 1)) l1) 46 1)) l2) 46 1)) (evK (d + 1) 198 88 [.ref 46, .int l1, .int l2, .int l3] [] (den d 187 [.ref 46, .int l1, .int l2] (S sl p (up2 (up2 (up2 I 47 (Int32.toNatClampNeg (I 46 1)) l1) 48 (Int32.toNatClampNeg ((up2 I 47 (Int32.toNatClampNeg (I 46 1)) l1) 46 1)) l2) 49 (Int32.toNatClampNeg ((up2 (up2 I 47 (Int32.toNatClampNeg (I 46 1)) l1) 48 (Int32.toNatClampNeg ((up2 I 47 (Int32.toNatClampNeg (I 46 1)) l1) 46 1)) l2) 46 1)) l3) J))))))) := by
  refine (r_ne0 (dk D198 14 rfl) rfl).trans (ite2 ?_ ?_)
  · exact rfl
  · refine (r_aln (dk D198 19 rfl) rfl).trans ?_
    refine (r_getI (dk D198 20 rfl) ow198 q12_186 ob_46).trans ?_
    refine (r_bp (dk D198 21 rfl) cb6).trans ?_
    refine (r_ne (dk D198 22 rfl) rfl).trans (ite2 ?_ ?_)
    · refine (r_aln (dk D198 23 rfl) rfl).trans ?_
      refine (r_ic (dk D198 24 rfl) ci3).trans ?_
      exact r_cv (dk D198 25 rfl) ow198 c12_183 mf178 (Nat.le_of_ble_eq_true rfl) rfl rfl (Nat.le_of_ble_eq_true rfl) (Nat.le_of_ble_eq_true rfl) ob_46
    · refine (r_aln (dk D198 27 rfl) rfl).trans ?_
      refine (r_getR (dk D198 28 rfl) ow198 q12_28 ob_46 rfl).trans ?_
      refine (r_aln (dk D198 29 rfl) rfl).trans ?_
      refine (r_getI (dk D198 30 rfl) ow198 q12_186 ob_46).trans ?_
      refine (r_iln (dk D198 31 rfl) rfl).trans ?_
      refine (r_ist (dk D198 32 rfl) ar_47).trans (ck3 fun g1 => ?_)
      refine (r_aln (dk D198 33 rfl) rfl).trans ?_
      refine (r_getR (dk D198 34 rfl) ow198 q12_32 ob_46 rfl).trans ?_
      refine (r_aln (dk D198 35 rfl) rfl).trans ?_
      refine (r_getI (dk D198 36 rfl) ow198 q12_186 ob_46).trans ?_
      refine (r_iln (dk D198 37 rfl) rfl).trans ?_
      refine (r_ist (dk D198 38 rfl) ar_48).trans (ck3 fun g2 => ?_)
      refine (r_aln (dk D198 39 rfl) rfl).trans ?_
      refine (r_getR (dk D198 40 rfl) ow198 q12_35 ob_46 rfl).trans ?_
      refine (r_aln (dk D198 41 rfl) rfl).trans ?_
      refine (r_getI (dk D198 42 rfl) ow198 q12_186 ob_46).trans ?_
      refine (r_iln (dk D198 43 rfl) rfl).trans ?_
      refine (r_ist (dk D198 44 rfl) ar_49).trans (ck3 fun g3 => ?_)
      refine (r_aln (dk D198 45 rfl) rfl).trans ?_
      refine (r_iln (dk D198 46 rfl) rfl).trans ?_
      refine (r_iln (dk D198 47 rfl) rfl).trans ?_
      exact r_cv (dk D198 48 rfl) ow198 c12_189 mf187 (Nat.le_of_ble_eq_true rfl) rfl rfl (Nat.le_of_ble_eq_true rfl) (Nat.le_of_ble_eq_true rfl) ob_46
theorem E198_31 {d sl : Nat} {p : Nat → Nat} {I : Nat → Nat → Int32} {J : Nat → Nat → Int64} (l1 : Int32) (l2 : Int32) (l3 : Int32)  : ev (d + 1) 198 31 [.ref 46, .int l1, .int l2, .int l3] [] (S sl p I J) = evK (d + 1) 198 36 [.ref 46, .int l1, .int l2, .int l3] [] (den d 178 [.ref 46, .int 1] (S sl p I J)) := by
  refine (r_aln (dk D198 15 rfl) rfl).trans ?_
  refine (r_ic (dk D198 16 rfl) ci1).trans ?_
  exact r_cv (dk D198 17 rfl) ow198 c12_183 mf178 (Nat.le_of_ble_eq_true rfl) rfl rfl (Nat.le_of_ble_eq_true rfl) (Nat.le_of_ble_eq_true rfl) ob_46
theorem E198_36 {d sl : Nat} {p : Nat → Nat} {I : Nat → Nat → Int32} {J : Nat → Nat → Int64} (l1 : Int32) (l2 : Int32) (l3 : Int32) (s0 : Int32)  : ev d 198 36 [.ref 46, .int l1, .int l2, .int l3] [.int s0] (S sl p I J) = some (some (.int s0), (S sl p I J)) := by
  exact r_ret (dk D198 18 rfl) rt198
theorem E198_51 {d sl : Nat} {p : Nat → Nat} {I : Nat → Nat → Int32} {J : Nat → Nat → Int64} (l1 : Int32) (l2 : Int32) (l3 : Int32) (s0 : Int32)  : ev d 198 51 [.ref 46, .int l1, .int l2, .int l3] [.int s0] (S sl p I J) = some (some (.int s0), (S sl p I J)) := by
  exact r_ret (dk D198 26 rfl) rt198
theorem E198_88 {d sl : Nat} {p : Nat → Nat} {I : Nat → Nat → Int32} {J : Nat → Nat → Int64} (l1 : Int32) (l2 : Int32) (l3 : Int32)  : ev (d + 1) 198 88 [.ref 46, .int l1, .int l2, .int l3] [] (S sl p I J) = ck (ixb 6 (I 46 1)) (ck (ixb 6 ((up2 I 57 (Int32.toNatClampNeg (I 46 1)) (I 46 23)) 46 1)) (ck (ixb 6 ((up2 (up2 I 57 (Int32.toNatClampNeg (I 46 1)) (I 46 23)) 58 (Int32.toNatClampNeg ((up2 I 57 (Int32.toNatClampNeg (I 46 1)) (I 46 23)) 46 1)) ((up2 I 57 (Int32.toNatClampNeg (I 46 1)) (I 46 23)) 46 24)) 46 1)) (evK (d + 1) 198 147 [.ref 46, .int l1, .int l2, .int l3] [] (den d 179 [.ref 46, .int (((up2 (up2 (up2 (up2 I 57 (Int32.toNatClampNeg (I 46 1)) (I 46 23)) 58 (Int32.toNatClampNeg ((up2 I 57 (Int32.toNatClampNeg (I 46 1)) (I 46 23)) 46 1)) ((up2 I 57 (Int32.toNatClampNeg (I 46 1)) (I 46 23)) 46 24)) 59 (Int32.toNatClampNeg ((up2 (up2 I 57 (Int32.toNatClampNeg (I 46 1)) (I 46 23)) 58 (Int32.toNatClampNeg ((up2 I 57 (Int32.toNatClampNeg (I 46 1)) (I 46 23)) 46 1)) ((up2 I 57 (Int32.toNatClampNeg (I 46 1)) (I 46 23)) 46 24)) 46 1)) ((up2 (up2 I 57 (Int32.toNatClampNeg (I 46 1)) (I 46 23)) 58 (Int32.toNatClampNeg ((up2 I 57 (Int32.toNatClampNeg (I 46 1)) (I 46 23)) 46 1)) ((up2 I 57 (Int32.toNatClampNeg (I 46 1)) (I 46 23)) 46 24)) 46 25)) 46 1 (((up2 (up2 (up2 I 57 (Int32.toNatClampNeg (I 46 1)) (I 46 23)) 58 (Int32.toNatClampNeg ((up2 I 57 (Int32.toNatClampNeg (I 46 1)) (I 46 23)) 46 1)) ((up2 I 57 (Int32.toNatClampNeg (I 46 1)) (I 46 23)) 46 24)) 59 (Int32.toNatClampNeg ((up2 (up2 I 57 (Int32.toNatClampNeg (I 46 1)) (I 46 23)) 58 (Int32.toNatClampNeg ((up2 I 57 (Int32.toNatClampNeg (I 46 1)) (I 46 23)) 46 1)) ((up2 I 57 (Int32.toNatClampNeg (I 46 1)) (I 46 23)) 46 24)) 46 1)) ((up2 (up2 I 57 (Int32.toNatClampNeg (I 46 1)) (I 46 23)) 58 (Int32.toNatClampNeg ((up2 I 57 (Int32.toNatClampNeg (I 46 1)) (I 46 23)) 46 1)) ((up2 I 57 (Int32.toNatClampNeg (I 46 1)) (I 46 23)) 46 24)) 46 25)) 46 1) + 1)) 46 1) - 1)] (S sl p (up2 (up2 (up2 (up2 I 57 (Int32.toNatClampNeg (I 46 1)) (I 46 23)) 58 (Int32.toNatClampNeg ((up2 I 57 (Int32.toNatClampNeg (I 46 1)) (I 46 23)) 46 1)) ((up2 I 57 (Int32.toNatClampNeg (I 46 1)) (I 46 23)) 46 24)) 59 (Int32.toNatClampNeg ((up2 (up2 I 57 (Int32.toNatClampNeg (I 46 1)) (I 46 23)) 58 (Int32.toNatClampNeg ((up2 I 57 (Int32.toNatClampNeg (I 46 1)) (I 46 23)) 46 1)) ((up2 I 57 (Int32.toNatClampNeg (I 46 1)) (I 46 23)) 46 24)) 46 1)) ((up2 (up2 I 57 (Int32.toNatClampNeg (I 46 1)) (I 46 23)) 58 (Int32.toNatClampNeg ((up2 I 57 (Int32.toNatClampNeg (I 46 1)) (I 46 23)) 46 1)) ((up2 I 57 (Int32.toNatClampNeg (I 46 1)) (I 46 23)) 46 24)) 46 25)) 46 1 (((up2 (up2 (up2 I 57 (Int32.toNatClampNeg (I 46 1)) (I 46 23)) 58 (Int32.toNatClampNeg ((up2 I 57 (Int32.toNatClampNeg (I 46 1)) (I 46 23)) 46 1)) ((up2 I 57 (Int32.toNatClampNeg (I 46 1)) (I 46 23)) 46 24)) 59 (Int32.toNatClampNeg ((up2 (up2 I 57 (Int32.toNatClampNeg (I 46 1)) (I 46 23)) 58 (Int32.toNatClampNeg ((up2 I 57 (Int32.toNatClampNeg (I 46 1)) (I 46 23)) 46 1)) ((up2 I 57 (Int32.toNatClampNeg (I 46 1)) (I 46 23)) 46 24)) 46 1)) ((up2 (up2 I 57 (Int32.toNatClampNeg (I 46 1)) (I 46 23)) 58 (Int32.toNatClampNeg ((up2 I 57 (Int32.toNatClampNeg (I 46 1)) (I 46 23)) 46 1)) ((up2 I 57 (Int32.toNatClampNeg (I 46 1)) (I 46 23)) 46 24)) 46 25)) 46 1) + 1)) J))))) := by
  refine (r_aln (dk D198 49 rfl) rfl).trans ?_
  refine (r_getR (dk D198 50 rfl) ow198 q12_59 ob_46 rfl).trans ?_
  refine (r_aln (dk D198 51 rfl) rfl).trans ?_
  refine (r_getI (dk D198 52 rfl) ow198 q12_186 ob_46).trans ?_
  refine (r_aln (dk D198 53 rfl) rfl).trans ?_
  refine (r_getI (dk D198 54 rfl) ow198 q12_127 ob_46).trans ?_
  refine (r_ist (dk D198 55 rfl) ar_57).trans (ck3 fun g1 => ?_)
  refine (r_aln (dk D198 56 rfl) rfl).trans ?_
  refine (r_getR (dk D198 57 rfl) ow198 q12_62 ob_46 rfl).trans ?_
  refine (r_aln (dk D198 58 rfl) rfl).trans ?_
  refine (r_getI (dk D198 59 rfl) ow198 q12_186 ob_46).trans ?_
  refine (r_aln (dk D198 60 rfl) rfl).trans ?_
  refine (r_getI (dk D198 61 rfl) ow198 q12_130 ob_46).trans ?_
  refine (r_ist (dk D198 62 rfl) ar_58).trans (ck3 fun g2 => ?_)
  refine (r_aln (dk D198 63 rfl) rfl).trans ?_
  refine (r_getR (dk D198 64 rfl) ow198 q12_65 ob_46 rfl).trans ?_
  refine (r_aln (dk D198 65 rfl) rfl).trans ?_
  refine (r_getI (dk D198 66 rfl) ow198 q12_186 ob_46).trans ?_
  refine (r_aln (dk D198 67 rfl) rfl).trans ?_
  refine (r_getI (dk D198 68 rfl) ow198 q12_133 ob_46).trans ?_
  refine (r_ist (dk D198 69 rfl) ar_59).trans (ck3 fun g3 => ?_)
  refine (r_aln (dk D198 70 rfl) rfl).trans ?_
  refine (r_dup (dk D198 71 rfl) rfl).trans ?_
  refine (r_getI (dk D198 72 rfl) ow198 q12_186 ob_46).trans ?_
  refine (r_ic (dk D198 73 rfl) ci1).trans ?_
  refine (r_iadd (dk D198 74 rfl)).trans ?_
  refine (r_putI (dk D198 75 rfl) ow198 w12_186 ob_46).trans ?_
  refine (r_aln (dk D198 76 rfl) rfl).trans ?_
  refine (r_aln (dk D198 77 rfl) rfl).trans ?_
  refine (r_getI (dk D198 78 rfl) ow198 q12_186 ob_46).trans ?_
  refine (r_ic (dk D198 79 rfl) ci1).trans ?_
  refine (r_isub (dk D198 80 rfl)).trans ?_
  exact r_cv (dk D198 81 rfl) ow198 c12_193 mf179 (Nat.le_of_ble_eq_true rfl) rfl rfl (Nat.le_of_ble_eq_true rfl) (Nat.le_of_ble_eq_true rfl) ob_46
theorem E198_147 {d sl : Nat} {p : Nat → Nat} {I : Nat → Nat → Int32} {J : Nat → Nat → Int64} (l1 : Int32) (l2 : Int32) (l3 : Int32) (s0 : Int32)  : ev d 198 147 [.ref 46, .int l1, .int l2, .int l3] [.int s0] (S sl p I J) = some (some (.int s0), (S sl p I J)) := by
  exact r_ret (dk D198 82 rfl) rt198
set_option maxRecDepth 20000 in
theorem D199 : dOK 199 [(0, .iload_n 0, 1), (1, .iconst 0, 1), (2, .sipush 359, 3), (5, .invokestatic 178, 3), (8, .ifCond .eq 17, 3), (11, .iload_n 1, 1), (12, .iconst 0, 1), (13, .bipush 90, 2), (15, .invokestatic 178, 3), (18, .ifCond .eq 7, 3), (21, .iconst 1, 1), (22, .goto 4, 3), (25, .iconst 0, 1), (26, .ireturn, 1)] = true := by decide +kernel
theorem E199_0 {d sl : Nat} {p : Nat → Nat} {I : Nat → Nat → Int32} {J : Nat → Nat → Int64} (a0 : Int32) (a1 : Int32)  : den (d + 1) 199 [.int a0, .int a1] (S sl p I J) = evK (d + 1) 199 8 [.int a0, .int a1] [] (den d 181 [.int a0, .int 0, .int 359] (S sl p I J)) := by
  refine (show den (d + 1) 199 [.int a0, .int a1] (S sl p I J) = ev (d + 1) 199 0 [.int a0, .int a1] [] (S sl p I J) from rfl).trans ?_
  refine (r_iln (dk D199 0 rfl) rfl).trans ?_
  refine (r_ic (dk D199 1 rfl) ci0).trans ?_
  refine (r_sp (dk D199 2 rfl) cs359).trans ?_
  exact r_cs (dk D199 3 rfl) ow199 pn12_178 c12_178 mf181 (Nat.le_of_ble_eq_true rfl) rfl rfl (Nat.le_of_ble_eq_true rfl) (Nat.le_of_ble_eq_true rfl)
theorem E199_8 {d sl : Nat} {p : Nat → Nat} {I : Nat → Nat → Int32} {J : Nat → Nat → Int64} (l0 : Int32) (l1 : Int32) (s0 : Int32)  : ev (d + 1) 199 8 [.int l0, .int l1] [.int s0] (S sl p I J) = (if s0 = 0 then some (some (.int 0), (S sl p I J)) else evK (d + 1) 199 18 [.int l0, .int l1] [] (den d 181 [.int l1, .int 0, .int 90] (S sl p I J))) := by
  refine (r_eq0 (dk D199 4 rfl) rfl).trans (ite2 ?_ ?_)
  · refine (r_ic (dk D199 12 rfl) ci0).trans ?_
    exact r_rez (dk D199 13 rfl) rt199 (by decide)
  · refine (r_iln (dk D199 5 rfl) rfl).trans ?_
    refine (r_ic (dk D199 6 rfl) ci0).trans ?_
    refine (r_bp (dk D199 7 rfl) cb90).trans ?_
    exact r_cs (dk D199 8 rfl) ow199 pn12_178 c12_178 mf181 (Nat.le_of_ble_eq_true rfl) rfl rfl (Nat.le_of_ble_eq_true rfl) (Nat.le_of_ble_eq_true rfl)
theorem E199_18 {d sl : Nat} {p : Nat → Nat} {I : Nat → Nat → Int32} {J : Nat → Nat → Int64} (l0 : Int32) (l1 : Int32) (s0 : Int32)  : ev d 199 18 [.int l0, .int l1] [.int s0] (S sl p I J) = (if s0 = 0 then some (some (.int 0), (S sl p I J)) else some (some (.int 1), (S sl p I J))) := by
  refine (r_eq0 (dk D199 9 rfl) rfl).trans (ite2 ?_ ?_)
  · refine (r_ic (dk D199 12 rfl) ci0).trans ?_
    exact r_rez (dk D199 13 rfl) rt199 (by decide)
  · refine (r_ic (dk D199 10 rfl) ci1).trans ?_
    refine (r_goto (L' := [.int l0, .int l1]) (dk D199 11 rfl) rfl nd199_26 rfl).trans ?_
    exact r_rez (dk D199 13 rfl) rt199 (by decide)
set_option maxRecDepth 20000 in
theorem D200 : dOK 200 [(0, .iload_n 1, 1), (1, .iconst 0, 1), (2, .aload_n 0, 1), (3, .getfield 186, 3), (6, .iconst 1, 1), (7, .isub, 1), (8, .invokestatic 178, 3), (11, .ireturn, 1)] = true := by decide +kernel
theorem E200_0 {d sl : Nat} {p : Nat → Nat} {I : Nat → Nat → Int32} {J : Nat → Nat → Int64} (a1 : Int32)  : den (d + 1) 200 [.ref 46, .int a1] (S sl p I J) = evK (d + 1) 200 11 [.ref 46, .int a1] [] (den d 181 [.int a1, .int 0, .int ((I 46 1) - 1)] (S sl p I J)) := by
  refine (show den (d + 1) 200 [.ref 46, .int a1] (S sl p I J) = ev (d + 1) 200 0 [.ref 46, .int a1] [] (S sl p I J) from rfl).trans ?_
  refine (r_iln (dk D200 0 rfl) rfl).trans ?_
  refine (r_ic (dk D200 1 rfl) ci0).trans ?_
  refine (r_aln (dk D200 2 rfl) rfl).trans ?_
  refine (r_getI (dk D200 3 rfl) ow200 q12_186 ob_46).trans ?_
  refine (r_ic (dk D200 4 rfl) ci1).trans ?_
  refine (r_isub (dk D200 5 rfl)).trans ?_
  exact r_cs (dk D200 6 rfl) ow200 pn12_178 c12_178 mf181 (Nat.le_of_ble_eq_true rfl) rfl rfl (Nat.le_of_ble_eq_true rfl) (Nat.le_of_ble_eq_true rfl)
theorem E200_11 {d sl : Nat} {p : Nat → Nat} {I : Nat → Nat → Int32} {J : Nat → Nat → Int64} (l1 : Int32) (s0 : Int32)  : ev d 200 11 [.ref 46, .int l1] [.int s0] (S sl p I J) = ck (decide (s0 = 0 ∨ s0 = 1)) (some (some (.int s0), (S sl p I J))) := by
  exact r_rezc (dk D200 7 rfl) rt200
set_option maxRecDepth 20000 in
theorem D201 : dOK 201 [(0, .iload_n 1, 1), (1, .iconst 0, 1), (2, .aload_n 0, 1), (3, .getfield 196, 3), (6, .iconst 1, 1), (7, .isub, 1), (8, .invokestatic 178, 3), (11, .ireturn, 1)] = true := by decide +kernel
theorem E201_0 {d sl : Nat} {p : Nat → Nat} {I : Nat → Nat → Int32} {J : Nat → Nat → Int64} (a1 : Int32)  : den (d + 1) 201 [.ref 46, .int a1] (S sl p I J) = evK (d + 1) 201 11 [.ref 46, .int a1] [] (den d 181 [.int a1, .int 0, .int ((I 46 2) - 1)] (S sl p I J)) := by
  refine (show den (d + 1) 201 [.ref 46, .int a1] (S sl p I J) = ev (d + 1) 201 0 [.ref 46, .int a1] [] (S sl p I J) from rfl).trans ?_
  refine (r_iln (dk D201 0 rfl) rfl).trans ?_
  refine (r_ic (dk D201 1 rfl) ci0).trans ?_
  refine (r_aln (dk D201 2 rfl) rfl).trans ?_
  refine (r_getI (dk D201 3 rfl) ow201 q12_196 ob_46).trans ?_
  refine (r_ic (dk D201 4 rfl) ci1).trans ?_
  refine (r_isub (dk D201 5 rfl)).trans ?_
  exact r_cs (dk D201 6 rfl) ow201 pn12_178 c12_178 mf181 (Nat.le_of_ble_eq_true rfl) rfl rfl (Nat.le_of_ble_eq_true rfl) (Nat.le_of_ble_eq_true rfl)
theorem E201_11 {d sl : Nat} {p : Nat → Nat} {I : Nat → Nat → Int32} {J : Nat → Nat → Int64} (l1 : Int32) (s0 : Int32)  : ev d 201 11 [.ref 46, .int l1] [.int s0] (S sl p I J) = ck (decide (s0 = 0 ∨ s0 = 1)) (some (some (.int s0), (S sl p I J))) := by
  exact r_rezc (dk D201 7 rfl) rt201
set_option maxRecDepth 20000 in
theorem D202 : dOK 202 [(0, .iload_n 2, 1), (1, .iload_n 3, 1), (2, .invokestatic 199, 3), (5, .ifCond .eq 8, 3), (8, .iload 4, 2), (10, .ifCond .ge 9, 3), (13, .aload_n 0, 1), (14, .iconst 1, 1), (15, .invokevirtual 183, 3), (18, .ireturn, 1), (19, .aload_n 0, 1), (20, .iload_n 1, 1), (21, .invokevirtual 203, 3), (24, .ifCond .ne 9, 3), (27, .aload_n 0, 1), (28, .iconst 2, 1), (29, .invokevirtual 183, 3), (32, .ireturn, 1), (33, .iload 4, 2), (35, .aload_n 0, 1), (36, .getfield 35, 3), (39, .iload_n 1, 1), (40, .iaload, 1), (41, .if_icmp .le 9, 3), (44, .aload_n 0, 1), (45, .iconst 1, 1), (46, .invokevirtual 183, 3), (49, .ireturn, 1), (50, .aload_n 0, 1), (51, .getfield 196, 3), (54, .bipush 60, 2), (56, .if_icmp .ne 9, 3), (59, .aload_n 0, 1), (60, .iconst 3, 1), (61, .invokevirtual 183, 3), (64, .ireturn, 1), (65, .aload_n 0, 1), (66, .getfield 38, 3), (69, .aload_n 0, 1), (70, .getfield 196, 3), (73, .iload_n 1, 1), (74, .iastore, 1), (75, .aload_n 0, 1), (76, .getfield 41, 3), (79, .aload_n 0, 1), (80, .getfield 196, 3), (83, .iload_n 2, 1), (84, .iastore, 1), (85, .aload_n 0, 1), (86, .getfield 44, 3), (89, .aload_n 0, 1), (90, .getfield 196, 3), (93, .iload_n 3, 1), (94, .iastore, 1), (95, .aload_n 0, 1), (96, .getfield 47, 3), (99, .aload_n 0, 1), (100, .getfield 196, 3), (103, .iload 4, 2), (105, .iastore, 1), (106, .aload_n 0, 1), (107, .iload_n 2, 1), (108, .iload_n 3, 1), (109, .invokevirtual 207, 3), (112, .aload_n 0, 1), (113, .getfield 50, 3), (116, .aload_n 0, 1), (117, .getfield 196, 3), (120, .aload_n 0, 1), (121, .getfield 127, 3), (124, .iastore, 1), (125, .aload_n 0, 1), (126, .getfield 53, 3), (129, .aload_n 0, 1), (130, .getfield 196, 3), (133, .aload_n 0, 1), (134, .getfield 130, 3), (137, .iastore, 1), (138, .aload_n 0, 1), (139, .getfield 56, 3), (142, .aload_n 0, 1), (143, .getfield 196, 3), (146, .aload_n 0, 1), (147, .getfield 133, 3), (150, .iastore, 1), (151, .aload_n 0, 1), (152, .dup, 1), (153, .getfield 196, 3), (156, .iconst 1, 1), (157, .iadd, 1), (158, .putfield 196, 3), (161, .aload_n 0, 1), (162, .aload_n 0, 1), (163, .getfield 196, 3), (166, .iconst 1, 1), (167, .isub, 1), (168, .invokevirtual 193, 3), (171, .ireturn, 1)] = true := by decide +kernel
theorem E202_0 {d sl : Nat} {p : Nat → Nat} {I : Nat → Nat → Int32} {J : Nat → Nat → Int64} (a1 : Int32) (a2 : Int32) (a3 : Int32) (a4 : Int32)  : den (d + 1) 202 [.ref 46, .int a1, .int a2, .int a3, .int a4] (S sl p I J) = evK (d + 1) 202 5 [.ref 46, .int a1, .int a2, .int a3, .int a4] [] (den d 199 [.int a2, .int a3] (S sl p I J)) := by
  refine (show den (d + 1) 202 [.ref 46, .int a1, .int a2, .int a3, .int a4] (S sl p I J) = ev (d + 1) 202 0 [.ref 46, .int a1, .int a2, .int a3, .int a4] [] (S sl p I J) from rfl).trans ?_
  refine (r_iln (dk D202 0 rfl) rfl).trans ?_
  refine (r_iln (dk D202 1 rfl) rfl).trans ?_
  exact r_cs (dk D202 2 rfl) ow202 pn12_199 c12_199 mf199 (Nat.le_of_ble_eq_true rfl) rfl rfl (Nat.le_of_ble_eq_true rfl) (Nat.le_of_ble_eq_true rfl)
theorem E202_5 {d sl : Nat} {p : Nat → Nat} {I : Nat → Nat → Int32} {J : Nat → Nat → Int64} (l1 : Int32) (l2 : Int32) (l3 : Int32) (l4 : Int32) (s0 : Int32)  : ev (d + 1) 202 5 [.ref 46, .int l1, .int l2, .int l3, .int l4] [.int s0] (S sl p I J) = (if s0 = 0 then ev (d + 1) 202 13 [.ref 46, .int l1, .int l2, .int l3, .int l4] [] (S sl p I J) else (if l4 < 0 then ev (d + 1) 202 13 [.ref 46, .int l1, .int l2, .int l3, .int l4] [] (S sl p I J) else evK (d + 1) 202 24 [.ref 46, .int l1, .int l2, .int l3, .int l4] [] (den d 200 [.ref 46, .int l1] (S sl p I J)))) := by
  refine (r_eq0 (dk D202 3 rfl) rfl).trans (ite2 ?_ ?_)
  · exact rfl
  · refine (r_il (dk D202 4 rfl) rfl).trans ?_
    refine (r_ge0 (dk D202 5 rfl) rfl).trans (ite2 ?_ ?_)
    · exact rfl
    · refine (r_aln (dk D202 10 rfl) rfl).trans ?_
      refine (r_iln (dk D202 11 rfl) rfl).trans ?_
      exact r_cv (dk D202 12 rfl) ow202 c12_203 mf200 (Nat.le_of_ble_eq_true rfl) rfl rfl (Nat.le_of_ble_eq_true rfl) (Nat.le_of_ble_eq_true rfl) ob_46
theorem E202_13 {d sl : Nat} {p : Nat → Nat} {I : Nat → Nat → Int32} {J : Nat → Nat → Int64} (l1 : Int32) (l2 : Int32) (l3 : Int32) (l4 : Int32)  : ev (d + 1) 202 13 [.ref 46, .int l1, .int l2, .int l3, .int l4] [] (S sl p I J) = evK (d + 1) 202 18 [.ref 46, .int l1, .int l2, .int l3, .int l4] [] (den d 178 [.ref 46, .int 1] (S sl p I J)) := by
  refine (r_aln (dk D202 6 rfl) rfl).trans ?_
  refine (r_ic (dk D202 7 rfl) ci1).trans ?_
  exact r_cv (dk D202 8 rfl) ow202 c12_183 mf178 (Nat.le_of_ble_eq_true rfl) rfl rfl (Nat.le_of_ble_eq_true rfl) (Nat.le_of_ble_eq_true rfl) ob_46
theorem E202_18 {d sl : Nat} {p : Nat → Nat} {I : Nat → Nat → Int32} {J : Nat → Nat → Int64} (l1 : Int32) (l2 : Int32) (l3 : Int32) (l4 : Int32) (s0 : Int32)  : ev d 202 18 [.ref 46, .int l1, .int l2, .int l3, .int l4] [.int s0] (S sl p I J) = some (some (.int s0), (S sl p I J)) := by
  exact r_ret (dk D202 9 rfl) rt202
theorem E202_24 {d sl : Nat} {p : Nat → Nat} {I : Nat → Nat → Int32} {J : Nat → Nat → Int64} (l1 : Int32) (l2 : Int32) (l3 : Int32) (l4 : Int32) (s0 : Int32)  : ev (d + 1) 202 24 [.ref 46, .int l1, .int l2, .int l3, .int l4] [.int s0] (S sl p I J) = (if s0 = 0 then evK (d + 1) 202 32 [.ref 46, .int l1, .int l2, .int l3, .int l4] [] (den d 178 [.ref 46, .int 2] (S sl p I J)) else ck (ixb 6 l1) ((if l4 ≤ (I 49 (Int32.toNatClampNeg l1)) then (if (I 46 2) = 60 then evK (d + 1) 202 64 [.ref 46, .int l1, .int l2, .int l3, .int l4] [] (den d 178 [.ref 46, .int 3] (S sl p I J)) else ck (ixb 60 (I 46 2)) (ck (ixb 60 ((up2 I 50 (Int32.toNatClampNeg (I 46 2)) l1) 46 2)) (ck (ixb 60 ((up2 (up2 I 50 (Int32.toNatClampNeg (I 46 2)) l1) 51 (Int32.toNatClampNeg ((up2 I 50 (Int32.toNatClampNeg (I 46 2)) l1) 46 2)) l2) 46 2)) (ck (ixb 60 ((up2 (up2 (up2 I 50 (Int32.toNatClampNeg (I 46 2)) l1) 51 (Int32.toNatClampNeg ((up2 I 50 (Int32.toNatClampNeg (I 46 2)) l1) 46 2)) l2) 52 (Int32.toNatClampNeg ((up2 (up2 I 50 (Int32.toNatClampNeg (I 46 2)) l1) 51 (Int32.toNatClampNeg ((up2 I 50 (Int32.toNatClampNeg (I 46 2)) l1) 46 2)) l2) 46 2)) l3) 46 2)) (evK (d + 1) 202 112 [.ref 46, .int l1, .int l2, .int l3, .int l4] [] (den d 186 [.ref 46, .int l2, .int l3] (S sl p (up2 (up2 (up2 (up2 I 50 (Int32.toNatClampNeg (I 46 2)) l1) 51 (Int32.toNatClampNeg ((up2 I 50 (Int32.toNatClampNeg (I 46 2)) l1) 46 2)) l2) 52 (Int32.toNatClampNeg ((up2 (up2 I 50 (Int32.toNatClampNeg (I 46 2)) l1) 51 (Int32.toNatClampNeg ((up2 I 50 (Int32.toNatClampNeg (I 46 2)) l1) 46 2)) l2) 46 2)) l3) 53 (Int32.toNatClampNeg ((up2 (up2 (up2 I 50 (Int32.toNatClampNeg (I 46 2)) l1) 51 (Int32.toNatClampNeg ((up2 I 50 (Int32.toNatClampNeg (I 46 2)) l1) 46 2)) l2) 52 (Int32.toNatClampNeg ((up2 (up2 I 50 (Int32.toNatClampNeg (I 46 2)) l1) 51 (Int32.toNatClampNeg ((up2 I 50 (Int32.toNatClampNeg (I 46 2)) l1) 46 2)) l2) 46 2)) l3) 46 2)) l4) J))))))) else evK (d + 1) 202 49 [.ref 46, .int l1, .int l2, .int l3, .int l4] [] (den d 178 [.ref 46, .int 1] (S sl p I J))))) := by
  refine (r_ne0 (dk D202 13 rfl) rfl).trans (ite2 ?_ ?_)
  · refine (r_aln (dk D202 14 rfl) rfl).trans ?_
    refine (r_ic (dk D202 15 rfl) ci2).trans ?_
    exact r_cv (dk D202 16 rfl) ow202 c12_183 mf178 (Nat.le_of_ble_eq_true rfl) rfl rfl (Nat.le_of_ble_eq_true rfl) (Nat.le_of_ble_eq_true rfl) ob_46
  · refine (r_il (dk D202 18 rfl) rfl).trans ?_
    refine (r_aln (dk D202 19 rfl) rfl).trans ?_
    refine (r_getR (dk D202 20 rfl) ow202 q12_35 ob_46 rfl).trans ?_
    refine (r_iln (dk D202 21 rfl) rfl).trans ?_
    refine (r_ild (dk D202 22 rfl) ar_49).trans (ck3 fun g1 => ?_)
    refine (r_le (dk D202 23 rfl) rfl).trans (ite2 ?_ ?_)
    · refine (r_aln (dk D202 28 rfl) rfl).trans ?_
      refine (r_getI (dk D202 29 rfl) ow202 q12_196 ob_46).trans ?_
      refine (r_bp (dk D202 30 rfl) cb60).trans ?_
      refine (r_ne (dk D202 31 rfl) rfl).trans (ite2 ?_ ?_)
      · refine (r_aln (dk D202 32 rfl) rfl).trans ?_
        refine (r_ic (dk D202 33 rfl) ci3).trans ?_
        exact r_cv (dk D202 34 rfl) ow202 c12_183 mf178 (Nat.le_of_ble_eq_true rfl) rfl rfl (Nat.le_of_ble_eq_true rfl) (Nat.le_of_ble_eq_true rfl) ob_46
      · refine (r_aln (dk D202 36 rfl) rfl).trans ?_
        refine (r_getR (dk D202 37 rfl) ow202 q12_38 ob_46 rfl).trans ?_
        refine (r_aln (dk D202 38 rfl) rfl).trans ?_
        refine (r_getI (dk D202 39 rfl) ow202 q12_196 ob_46).trans ?_
        refine (r_iln (dk D202 40 rfl) rfl).trans ?_
        refine (r_ist (dk D202 41 rfl) ar_50).trans (ck3 fun g2 => ?_)
        refine (r_aln (dk D202 42 rfl) rfl).trans ?_
        refine (r_getR (dk D202 43 rfl) ow202 q12_41 ob_46 rfl).trans ?_
        refine (r_aln (dk D202 44 rfl) rfl).trans ?_
        refine (r_getI (dk D202 45 rfl) ow202 q12_196 ob_46).trans ?_
        refine (r_iln (dk D202 46 rfl) rfl).trans ?_
        refine (r_ist (dk D202 47 rfl) ar_51).trans (ck3 fun g3 => ?_)
        refine (r_aln (dk D202 48 rfl) rfl).trans ?_
        refine (r_getR (dk D202 49 rfl) ow202 q12_44 ob_46 rfl).trans ?_
        refine (r_aln (dk D202 50 rfl) rfl).trans ?_
        refine (r_getI (dk D202 51 rfl) ow202 q12_196 ob_46).trans ?_
        refine (r_iln (dk D202 52 rfl) rfl).trans ?_
        refine (r_ist (dk D202 53 rfl) ar_52).trans (ck3 fun g4 => ?_)
        refine (r_aln (dk D202 54 rfl) rfl).trans ?_
        refine (r_getR (dk D202 55 rfl) ow202 q12_47 ob_46 rfl).trans ?_
        refine (r_aln (dk D202 56 rfl) rfl).trans ?_
        refine (r_getI (dk D202 57 rfl) ow202 q12_196 ob_46).trans ?_
        refine (r_il (dk D202 58 rfl) rfl).trans ?_
        refine (r_ist (dk D202 59 rfl) ar_53).trans (ck3 fun g5 => ?_)
        refine (r_aln (dk D202 60 rfl) rfl).trans ?_
        refine (r_iln (dk D202 61 rfl) rfl).trans ?_
        refine (r_iln (dk D202 62 rfl) rfl).trans ?_
        exact r_cv (dk D202 63 rfl) ow202 c12_207 mf186 (Nat.le_of_ble_eq_true rfl) rfl rfl (Nat.le_of_ble_eq_true rfl) (Nat.le_of_ble_eq_true rfl) ob_46
    · refine (r_aln (dk D202 24 rfl) rfl).trans ?_
      refine (r_ic (dk D202 25 rfl) ci1).trans ?_
      exact r_cv (dk D202 26 rfl) ow202 c12_183 mf178 (Nat.le_of_ble_eq_true rfl) rfl rfl (Nat.le_of_ble_eq_true rfl) (Nat.le_of_ble_eq_true rfl) ob_46
theorem E202_32 {d sl : Nat} {p : Nat → Nat} {I : Nat → Nat → Int32} {J : Nat → Nat → Int64} (l1 : Int32) (l2 : Int32) (l3 : Int32) (l4 : Int32) (s0 : Int32)  : ev d 202 32 [.ref 46, .int l1, .int l2, .int l3, .int l4] [.int s0] (S sl p I J) = some (some (.int s0), (S sl p I J)) := by
  exact r_ret (dk D202 17 rfl) rt202
theorem E202_49 {d sl : Nat} {p : Nat → Nat} {I : Nat → Nat → Int32} {J : Nat → Nat → Int64} (l1 : Int32) (l2 : Int32) (l3 : Int32) (l4 : Int32) (s0 : Int32)  : ev d 202 49 [.ref 46, .int l1, .int l2, .int l3, .int l4] [.int s0] (S sl p I J) = some (some (.int s0), (S sl p I J)) := by
  exact r_ret (dk D202 27 rfl) rt202
theorem E202_64 {d sl : Nat} {p : Nat → Nat} {I : Nat → Nat → Int32} {J : Nat → Nat → Int64} (l1 : Int32) (l2 : Int32) (l3 : Int32) (l4 : Int32) (s0 : Int32)  : ev d 202 64 [.ref 46, .int l1, .int l2, .int l3, .int l4] [.int s0] (S sl p I J) = some (some (.int s0), (S sl p I J)) := by
  exact r_ret (dk D202 35 rfl) rt202
theorem E202_112 {d sl : Nat} {p : Nat → Nat} {I : Nat → Nat → Int32} {J : Nat → Nat → Int64} (l1 : Int32) (l2 : Int32) (l3 : Int32) (l4 : Int32)  : ev (d + 1) 202 112 [.ref 46, .int l1, .int l2, .int l3, .int l4] [] (S sl p I J) = ck (ixb 60 (I 46 2)) (ck (ixb 60 ((up2 I 54 (Int32.toNatClampNeg (I 46 2)) (I 46 23)) 46 2)) (ck (ixb 60 ((up2 (up2 I 54 (Int32.toNatClampNeg (I 46 2)) (I 46 23)) 55 (Int32.toNatClampNeg ((up2 I 54 (Int32.toNatClampNeg (I 46 2)) (I 46 23)) 46 2)) ((up2 I 54 (Int32.toNatClampNeg (I 46 2)) (I 46 23)) 46 24)) 46 2)) (evK (d + 1) 202 171 [.ref 46, .int l1, .int l2, .int l3, .int l4] [] (den d 179 [.ref 46, .int (((up2 (up2 (up2 (up2 I 54 (Int32.toNatClampNeg (I 46 2)) (I 46 23)) 55 (Int32.toNatClampNeg ((up2 I 54 (Int32.toNatClampNeg (I 46 2)) (I 46 23)) 46 2)) ((up2 I 54 (Int32.toNatClampNeg (I 46 2)) (I 46 23)) 46 24)) 56 (Int32.toNatClampNeg ((up2 (up2 I 54 (Int32.toNatClampNeg (I 46 2)) (I 46 23)) 55 (Int32.toNatClampNeg ((up2 I 54 (Int32.toNatClampNeg (I 46 2)) (I 46 23)) 46 2)) ((up2 I 54 (Int32.toNatClampNeg (I 46 2)) (I 46 23)) 46 24)) 46 2)) ((up2 (up2 I 54 (Int32.toNatClampNeg (I 46 2)) (I 46 23)) 55 (Int32.toNatClampNeg ((up2 I 54 (Int32.toNatClampNeg (I 46 2)) (I 46 23)) 46 2)) ((up2 I 54 (Int32.toNatClampNeg (I 46 2)) (I 46 23)) 46 24)) 46 25)) 46 2 (((up2 (up2 (up2 I 54 (Int32.toNatClampNeg (I 46 2)) (I 46 23)) 55 (Int32.toNatClampNeg ((up2 I 54 (Int32.toNatClampNeg (I 46 2)) (I 46 23)) 46 2)) ((up2 I 54 (Int32.toNatClampNeg (I 46 2)) (I 46 23)) 46 24)) 56 (Int32.toNatClampNeg ((up2 (up2 I 54 (Int32.toNatClampNeg (I 46 2)) (I 46 23)) 55 (Int32.toNatClampNeg ((up2 I 54 (Int32.toNatClampNeg (I 46 2)) (I 46 23)) 46 2)) ((up2 I 54 (Int32.toNatClampNeg (I 46 2)) (I 46 23)) 46 24)) 46 2)) ((up2 (up2 I 54 (Int32.toNatClampNeg (I 46 2)) (I 46 23)) 55 (Int32.toNatClampNeg ((up2 I 54 (Int32.toNatClampNeg (I 46 2)) (I 46 23)) 46 2)) ((up2 I 54 (Int32.toNatClampNeg (I 46 2)) (I 46 23)) 46 24)) 46 25)) 46 2) + 1)) 46 2) - 1)] (S sl p (up2 (up2 (up2 (up2 I 54 (Int32.toNatClampNeg (I 46 2)) (I 46 23)) 55 (Int32.toNatClampNeg ((up2 I 54 (Int32.toNatClampNeg (I 46 2)) (I 46 23)) 46 2)) ((up2 I 54 (Int32.toNatClampNeg (I 46 2)) (I 46 23)) 46 24)) 56 (Int32.toNatClampNeg ((up2 (up2 I 54 (Int32.toNatClampNeg (I 46 2)) (I 46 23)) 55 (Int32.toNatClampNeg ((up2 I 54 (Int32.toNatClampNeg (I 46 2)) (I 46 23)) 46 2)) ((up2 I 54 (Int32.toNatClampNeg (I 46 2)) (I 46 23)) 46 24)) 46 2)) ((up2 (up2 I 54 (Int32.toNatClampNeg (I 46 2)) (I 46 23)) 55 (Int32.toNatClampNeg ((up2 I 54 (Int32.toNatClampNeg (I 46 2)) (I 46 23)) 46 2)) ((up2 I 54 (Int32.toNatClampNeg (I 46 2)) (I 46 23)) 46 24)) 46 25)) 46 2 (((up2 (up2 (up2 I 54 (Int32.toNatClampNeg (I 46 2)) (I 46 23)) 55 (Int32.toNatClampNeg ((up2 I 54 (Int32.toNatClampNeg (I 46 2)) (I 46 23)) 46 2)) ((up2 I 54 (Int32.toNatClampNeg (I 46 2)) (I 46 23)) 46 24)) 56 (Int32.toNatClampNeg ((up2 (up2 I 54 (Int32.toNatClampNeg (I 46 2)) (I 46 23)) 55 (Int32.toNatClampNeg ((up2 I 54 (Int32.toNatClampNeg (I 46 2)) (I 46 23)) 46 2)) ((up2 I 54 (Int32.toNatClampNeg (I 46 2)) (I 46 23)) 46 24)) 46 2)) ((up2 (up2 I 54 (Int32.toNatClampNeg (I 46 2)) (I 46 23)) 55 (Int32.toNatClampNeg ((up2 I 54 (Int32.toNatClampNeg (I 46 2)) (I 46 23)) 46 2)) ((up2 I 54 (Int32.toNatClampNeg (I 46 2)) (I 46 23)) 46 24)) 46 25)) 46 2) + 1)) J))))) := by
  refine (r_aln (dk D202 64 rfl) rfl).trans ?_
  refine (r_getR (dk D202 65 rfl) ow202 q12_50 ob_46 rfl).trans ?_
  refine (r_aln (dk D202 66 rfl) rfl).trans ?_
  refine (r_getI (dk D202 67 rfl) ow202 q12_196 ob_46).trans ?_
  refine (r_aln (dk D202 68 rfl) rfl).trans ?_
  refine (r_getI (dk D202 69 rfl) ow202 q12_127 ob_46).trans ?_
  refine (r_ist (dk D202 70 rfl) ar_54).trans (ck3 fun g1 => ?_)
  refine (r_aln (dk D202 71 rfl) rfl).trans ?_
  refine (r_getR (dk D202 72 rfl) ow202 q12_53 ob_46 rfl).trans ?_
  refine (r_aln (dk D202 73 rfl) rfl).trans ?_
  refine (r_getI (dk D202 74 rfl) ow202 q12_196 ob_46).trans ?_
  refine (r_aln (dk D202 75 rfl) rfl).trans ?_
  refine (r_getI (dk D202 76 rfl) ow202 q12_130 ob_46).trans ?_
  refine (r_ist (dk D202 77 rfl) ar_55).trans (ck3 fun g2 => ?_)
  refine (r_aln (dk D202 78 rfl) rfl).trans ?_
  refine (r_getR (dk D202 79 rfl) ow202 q12_56 ob_46 rfl).trans ?_
  refine (r_aln (dk D202 80 rfl) rfl).trans ?_
  refine (r_getI (dk D202 81 rfl) ow202 q12_196 ob_46).trans ?_
  refine (r_aln (dk D202 82 rfl) rfl).trans ?_
  refine (r_getI (dk D202 83 rfl) ow202 q12_133 ob_46).trans ?_
  refine (r_ist (dk D202 84 rfl) ar_56).trans (ck3 fun g3 => ?_)
  refine (r_aln (dk D202 85 rfl) rfl).trans ?_
  refine (r_dup (dk D202 86 rfl) rfl).trans ?_
  refine (r_getI (dk D202 87 rfl) ow202 q12_196 ob_46).trans ?_
  refine (r_ic (dk D202 88 rfl) ci1).trans ?_
  refine (r_iadd (dk D202 89 rfl)).trans ?_
  refine (r_putI (dk D202 90 rfl) ow202 w12_196 ob_46).trans ?_
  refine (r_aln (dk D202 91 rfl) rfl).trans ?_
  refine (r_aln (dk D202 92 rfl) rfl).trans ?_
  refine (r_getI (dk D202 93 rfl) ow202 q12_196 ob_46).trans ?_
  refine (r_ic (dk D202 94 rfl) ci1).trans ?_
  refine (r_isub (dk D202 95 rfl)).trans ?_
  exact r_cv (dk D202 96 rfl) ow202 c12_193 mf179 (Nat.le_of_ble_eq_true rfl) rfl rfl (Nat.le_of_ble_eq_true rfl) (Nat.le_of_ble_eq_true rfl) ob_46
theorem E202_171 {d sl : Nat} {p : Nat → Nat} {I : Nat → Nat → Int32} {J : Nat → Nat → Int64} (l1 : Int32) (l2 : Int32) (l3 : Int32) (l4 : Int32) (s0 : Int32)  : ev d 202 171 [.ref 46, .int l1, .int l2, .int l3, .int l4] [.int s0] (S sl p I J) = some (some (.int s0), (S sl p I J)) := by
  exact r_ret (dk D202 97 rfl) rt202
set_option maxRecDepth 20000 in
theorem D203 : dOK 203 [(0, .aload_n 0, 1), (1, .iload_n 1, 1), (2, .invokevirtual 210, 3), (5, .ifCond .ne 9, 3), (8, .aload_n 0, 1), (9, .iconst 2, 1), (10, .invokevirtual 183, 3), (13, .ireturn, 1), (14, .aload_n 0, 1), (15, .dup, 1), (16, .getfield 196, 3), (19, .iconst 1, 1), (20, .isub, 1), (21, .putfield 196, 3), (24, .iload_n 1, 1), (25, .istore_n 2, 1), (26, .iload_n 2, 1), (27, .aload_n 0, 1), (28, .getfield 196, 3), (31, .if_icmp .ge 107, 3), (34, .aload_n 0, 1), (35, .getfield 38, 3), (38, .iload_n 2, 1), (39, .aload_n 0, 1), (40, .getfield 38, 3), (43, .iload_n 2, 1), (44, .iconst 1, 1), (45, .iadd, 1), (46, .iaload, 1), (47, .iastore, 1), (48, .aload_n 0, 1), (49, .getfield 41, 3), (52, .iload_n 2, 1), (53, .aload_n 0, 1), (54, .getfield 41, 3), (57, .iload_n 2, 1), (58, .iconst 1, 1), (59, .iadd, 1), (60, .iaload, 1), (61, .iastore, 1), (62, .aload_n 0, 1), (63, .getfield 44, 3), (66, .iload_n 2, 1), (67, .aload_n 0, 1), (68, .getfield 44, 3), (71, .iload_n 2, 1), (72, .iconst 1, 1), (73, .iadd, 1), (74, .iaload, 1), (75, .iastore, 1), (76, .aload_n 0, 1), (77, .getfield 47, 3), (80, .iload_n 2, 1), (81, .aload_n 0, 1), (82, .getfield 47, 3), (85, .iload_n 2, 1), (86, .iconst 1, 1), (87, .iadd, 1), (88, .iaload, 1), (89, .iastore, 1), (90, .aload_n 0, 1), (91, .getfield 50, 3), (94, .iload_n 2, 1), (95, .aload_n 0, 1), (96, .getfield 50, 3), (99, .iload_n 2, 1), (100, .iconst 1, 1), (101, .iadd, 1), (102, .iaload, 1), (103, .iastore, 1), (104, .aload_n 0, 1), (105, .getfield 53, 3), (108, .iload_n 2, 1), (109, .aload_n 0, 1), (110, .getfield 53, 3), (113, .iload_n 2, 1), (114, .iconst 1, 1), (115, .iadd, 1), (116, .iaload, 1), (117, .iastore, 1), (118, .aload_n 0, 1), (119, .getfield 56, 3), (122, .iload_n 2, 1), (123, .aload_n 0, 1), (124, .getfield 56, 3), (127, .iload_n 2, 1), (128, .iconst 1, 1), (129, .iadd, 1), (130, .iaload, 1), (131, .iastore, 1), (132, .iinc 2 1, 3), (135, .goto (-109), 3), (138, .aload_n 0, 1), (139, .aload_n 0, 1), (140, .getfield 196, 3), (143, .invokevirtual 193, 3), (146, .ireturn, 1)] = true := by decide +kernel
theorem E203_0 {d sl : Nat} {p : Nat → Nat} {I : Nat → Nat → Int32} {J : Nat → Nat → Int64} (a1 : Int32)  : den (d + 1) 203 [.ref 46, .int a1] (S sl p I J) = evK (d + 1) 203 5 [.ref 46, .int a1, .retAddr 0] [] (den d 201 [.ref 46, .int a1] (S sl p I J)) := by
  refine (show den (d + 1) 203 [.ref 46, .int a1] (S sl p I J) = ev (d + 1) 203 0 [.ref 46, .int a1, .retAddr 0] [] (S sl p I J) from rfl).trans ?_
  refine (r_aln (dk D203 0 rfl) rfl).trans ?_
  refine (r_iln (dk D203 1 rfl) rfl).trans ?_
  exact r_cv (dk D203 2 rfl) ow203 c12_210 mf201 (Nat.le_of_ble_eq_true rfl) rfl rfl (Nat.le_of_ble_eq_true rfl) (Nat.le_of_ble_eq_true rfl) ob_46
theorem E203_5 {d sl : Nat} {p : Nat → Nat} {I : Nat → Nat → Int32} {J : Nat → Nat → Int64} (l1 : Int32) (s0 : Int32)  : ev (d + 1) 203 5 [.ref 46, .int l1, .retAddr 0] [.int s0] (S sl p I J) = (if s0 = 0 then evK (d + 1) 203 13 [.ref 46, .int l1, .retAddr 0] [] (den d 178 [.ref 46, .int 2] (S sl p I J)) else ev (d + 1) 203 26 [.ref 46, .int l1, .int l1] [] (S sl p (up2 I 46 2 ((I 46 2) - 1)) J)) := by
  refine (r_ne0 (dk D203 3 rfl) rfl).trans (ite2 ?_ ?_)
  · refine (r_aln (dk D203 4 rfl) rfl).trans ?_
    refine (r_ic (dk D203 5 rfl) ci2).trans ?_
    exact r_cv (dk D203 6 rfl) ow203 c12_183 mf178 (Nat.le_of_ble_eq_true rfl) rfl rfl (Nat.le_of_ble_eq_true rfl) (Nat.le_of_ble_eq_true rfl) ob_46
  · refine (r_aln (dk D203 8 rfl) rfl).trans ?_
    refine (r_dup (dk D203 9 rfl) rfl).trans ?_
    refine (r_getI (dk D203 10 rfl) ow203 q12_196 ob_46).trans ?_
    refine (r_ic (dk D203 11 rfl) ci1).trans ?_
    refine (r_isub (dk D203 12 rfl)).trans ?_
    refine (r_putI (dk D203 13 rfl) ow203 w12_196 ob_46).trans ?_
    refine (r_iln (dk D203 14 rfl) rfl).trans ?_
    refine (r_isn (L' := [.ref 46, .int l1, .int l1]) (dk D203 15 rfl) (Nat.le_of_ble_eq_true rfl) rfl).trans ?_
    exact rfl
theorem E203_13 {d sl : Nat} {p : Nat → Nat} {I : Nat → Nat → Int32} {J : Nat → Nat → Int64} (l1 : Int32) (s0 : Int32)  : ev d 203 13 [.ref 46, .int l1, .retAddr 0] [.int s0] (S sl p I J) = some (some (.int s0), (S sl p I J)) := by
  exact r_ret (dk D203 7 rfl) rt203
theorem E203_26 {d sl : Nat} {p : Nat → Nat} {I : Nat → Nat → Int32} {J : Nat → Nat → Int64} (l1 : Int32) (l2 : Int32)  : ev (d + 1) 203 26 [.ref 46, .int l1, .int l2] [] (S sl p I J) = (if l2 < (I 46 2) then ck (ixb 60 (l2 + 1)) (ck (ixb 60 l2) (ck (ixb 60 (l2 + 1)) (ck (ixb 60 l2) (ck (ixb 60 (l2 + 1)) (ck (ixb 60 l2) (ck (ixb 60 (l2 + 1)) (ck (ixb 60 l2) (ck (ixb 60 (l2 + 1)) (ck (ixb 60 l2) (ck (ixb 60 (l2 + 1)) (ck (ixb 60 l2) (ck (ixb 60 (l2 + 1)) (ck (ixb 60 l2) (ev (d + 1) 203 26 [.ref 46, .int l1, .int (l2 + 1)] [] (S sl p (up2 (up2 (up2 (up2 (up2 (up2 (up2 I 50 (Int32.toNatClampNeg l2) (I 50 (Int32.toNatClampNeg (l2 + 1)))) 51 (Int32.toNatClampNeg l2) ((up2 I 50 (Int32.toNatClampNeg l2) (I 50 (Int32.toNatClampNeg (l2 + 1)))) 51 (Int32.toNatClampNeg (l2 + 1)))) 52 (Int32.toNatClampNeg l2) ((up2 (up2 I 50 (Int32.toNatClampNeg l2) (I 50 (Int32.toNatClampNeg (l2 + 1)))) 51 (Int32.toNatClampNeg l2) ((up2 I 50 (Int32.toNatClampNeg l2) (I 50 (Int32.toNatClampNeg (l2 + 1)))) 51 (Int32.toNatClampNeg (l2 + 1)))) 52 (Int32.toNatClampNeg (l2 + 1)))) 53 (Int32.toNatClampNeg l2) ((up2 (up2 (up2 I 50 (Int32.toNatClampNeg l2) (I 50 (Int32.toNatClampNeg (l2 + 1)))) 51 (Int32.toNatClampNeg l2) ((up2 I 50 (Int32.toNatClampNeg l2) (I 50 (Int32.toNatClampNeg (l2 + 1)))) 51 (Int32.toNatClampNeg (l2 + 1)))) 52 (Int32.toNatClampNeg l2) ((up2 (up2 I 50 (Int32.toNatClampNeg l2) (I 50 (Int32.toNatClampNeg (l2 + 1)))) 51 (Int32.toNatClampNeg l2) ((up2 I 50 (Int32.toNatClampNeg l2) (I 50 (Int32.toNatClampNeg (l2 + 1)))) 51 (Int32.toNatClampNeg (l2 + 1)))) 52 (Int32.toNatClampNeg (l2 + 1)))) 53 (Int32.toNatClampNeg (l2 + 1)))) 54 (Int32.toNatClampNeg l2) ((up2 (up2 (up2 (up2 I 50 (Int32.toNatClampNeg l2) (I 50 (Int32.toNatClampNeg (l2 + 1)))) 51 (Int32.toNatClampNeg l2) ((up2 I 50 (Int32.toNatClampNeg l2) (I 50 (Int32.toNatClampNeg (l2 + 1)))) 51 (Int32.toNatClampNeg (l2 + 1)))) 52 (Int32.toNatClampNeg l2) ((up2 (up2 I 50 (Int32.toNatClampNeg l2) (I 50 (Int32.toNatClampNeg (l2 + 1)))) 51 (Int32.toNatClampNeg l2) ((up2 I 50 (Int32.toNatClampNeg l2) (I 50 (Int32.toNatClampNeg (l2 + 1)))) 51 (Int32.toNatClampNeg (l2 + 1)))) 52 (Int32.toNatClampNeg (l2 + 1)))) 53 (Int32.toNatClampNeg l2) ((up2 (up2 (up2 I 50 (Int32.toNatClampNeg l2) (I 50 (Int32.toNatClampNeg (l2 + 1)))) 51 (Int32.toNatClampNeg l2) ((up2 I 50 (Int32.toNatClampNeg l2) (I 50 (Int32.toNatClampNeg (l2 + 1)))) 51 (Int32.toNatClampNeg (l2 + 1)))) 52 (Int32.toNatClampNeg l2) ((up2 (up2 I 50 (Int32.toNatClampNeg l2) (I 50 (Int32.toNatClampNeg (l2 + 1)))) 51 (Int32.toNatClampNeg l2) ((up2 I 50 (Int32.toNatClampNeg l2) (I 50 (Int32.toNatClampNeg (l2 + 1)))) 51 (Int32.toNatClampNeg (l2 + 1)))) 52 (Int32.toNatClampNeg (l2 + 1)))) 53 (Int32.toNatClampNeg (l2 + 1)))) 54 (Int32.toNatClampNeg (l2 + 1)))) 55 (Int32.toNatClampNeg l2) ((up2 (up2 (up2 (up2 (up2 I 50 (Int32.toNatClampNeg l2) (I 50 (Int32.toNatClampNeg (l2 + 1)))) 51 (Int32.toNatClampNeg l2) ((up2 I 50 (Int32.toNatClampNeg l2) (I 50 (Int32.toNatClampNeg (l2 + 1)))) 51 (Int32.toNatClampNeg (l2 + 1)))) 52 (Int32.toNatClampNeg l2) ((up2 (up2 I 50 (Int32.toNatClampNeg l2) (I 50 (Int32.toNatClampNeg (l2 + 1)))) 51 (Int32.toNatClampNeg l2) ((up2 I 50 (Int32.toNatClampNeg l2) (I 50 (Int32.toNatClampNeg (l2 + 1)))) 51 (Int32.toNatClampNeg (l2 + 1)))) 52 (Int32.toNatClampNeg (l2 + 1)))) 53 (Int32.toNatClampNeg l2) ((up2 (up2 (up2 I 50 (Int32.toNatClampNeg l2) (I 50 (Int32.toNatClampNeg (l2 + 1)))) 51 (Int32.toNatClampNeg l2) ((up2 I 50 (Int32.toNatClampNeg l2) (I 50 (Int32.toNatClampNeg (l2 + 1)))) 51 (Int32.toNatClampNeg (l2 + 1)))) 52 (Int32.toNatClampNeg l2) ((up2 (up2 I 50 (Int32.toNatClampNeg l2) (I 50 (Int32.toNatClampNeg (l2 + 1)))) 51 (Int32.toNatClampNeg l2) ((up2 I 50 (Int32.toNatClampNeg l2) (I 50 (Int32.toNatClampNeg (l2 + 1)))) 51 (Int32.toNatClampNeg (l2 + 1)))) 52 (Int32.toNatClampNeg (l2 + 1)))) 53 (Int32.toNatClampNeg (l2 + 1)))) 54 (Int32.toNatClampNeg l2) ((up2 (up2 (up2 (up2 I 50 (Int32.toNatClampNeg l2) (I 50 (Int32.toNatClampNeg (l2 + 1)))) 51 (Int32.toNatClampNeg l2) ((up2 I 50 (Int32.toNatClampNeg l2) (I 50 (Int32.toNatClampNeg (l2 + 1)))) 51 (Int32.toNatClampNeg (l2 + 1)))) 52 (Int32.toNatClampNeg l2) ((up2 (up2 I 50 (Int32.toNatClampNeg l2) (I 50 (Int32.toNatClampNeg (l2 + 1)))) 51 (Int32.toNatClampNeg l2) ((up2 I 50 (Int32.toNatClampNeg l2) (I 50 (Int32.toNatClampNeg (l2 + 1)))) 51 (Int32.toNatClampNeg (l2 + 1)))) 52 (Int32.toNatClampNeg (l2 + 1)))) 53 (Int32.toNatClampNeg l2) ((up2 (up2 (up2 I 50 (Int32.toNatClampNeg l2) (I 50 (Int32.toNatClampNeg (l2 + 1)))) 51 (Int32.toNatClampNeg l2) ((up2 I 50 (Int32.toNatClampNeg l2) (I 50 (Int32.toNatClampNeg (l2 + 1)))) 51 (Int32.toNatClampNeg (l2 + 1)))) 52 (Int32.toNatClampNeg l2) ((up2 (up2 I 50 (Int32.toNatClampNeg l2) (I 50 (Int32.toNatClampNeg (l2 + 1)))) 51 (Int32.toNatClampNeg l2) ((up2 I 50 (Int32.toNatClampNeg l2) (I 50 (Int32.toNatClampNeg (l2 + 1)))) 51 (Int32.toNatClampNeg (l2 + 1)))) 52 (Int32.toNatClampNeg (l2 + 1)))) 53 (Int32.toNatClampNeg (l2 + 1)))) 54 (Int32.toNatClampNeg (l2 + 1)))) 55 (Int32.toNatClampNeg (l2 + 1)))) 56 (Int32.toNatClampNeg l2) ((up2 (up2 (up2 (up2 (up2 (up2 I 50 (Int32.toNatClampNeg l2) (I 50 (Int32.toNatClampNeg (l2 + 1)))) 51 (Int32.toNatClampNeg l2) ((up2 I 50 (Int32.toNatClampNeg l2) (I 50 (Int32.toNatClampNeg (l2 + 1)))) 51 (Int32.toNatClampNeg (l2 + 1)))) 52 (Int32.toNatClampNeg l2) ((up2 (up2 I 50 (Int32.toNatClampNeg l2) (I 50 (Int32.toNatClampNeg (l2 + 1)))) 51 (Int32.toNatClampNeg l2) ((up2 I 50 (Int32.toNatClampNeg l2) (I 50 (Int32.toNatClampNeg (l2 + 1)))) 51 (Int32.toNatClampNeg (l2 + 1)))) 52 (Int32.toNatClampNeg (l2 + 1)))) 53 (Int32.toNatClampNeg l2) ((up2 (up2 (up2 I 50 (Int32.toNatClampNeg l2) (I 50 (Int32.toNatClampNeg (l2 + 1)))) 51 (Int32.toNatClampNeg l2) ((up2 I 50 (Int32.toNatClampNeg l2) (I 50 (Int32.toNatClampNeg (l2 + 1)))) 51 (Int32.toNatClampNeg (l2 + 1)))) 52 (Int32.toNatClampNeg l2) ((up2 (up2 I 50 (Int32.toNatClampNeg l2) (I 50 (Int32.toNatClampNeg (l2 + 1)))) 51 (Int32.toNatClampNeg l2) ((up2 I 50 (Int32.toNatClampNeg l2) (I 50 (Int32.toNatClampNeg (l2 + 1)))) 51 (Int32.toNatClampNeg (l2 + 1)))) 52 (Int32.toNatClampNeg (l2 + 1)))) 53 (Int32.toNatClampNeg (l2 + 1)))) 54 (Int32.toNatClampNeg l2) ((up2 (up2 (up2 (up2 I 50 (Int32.toNatClampNeg l2) (I 50 (Int32.toNatClampNeg (l2 + 1)))) 51 (Int32.toNatClampNeg l2) ((up2 I 50 (Int32.toNatClampNeg l2) (I 50 (Int32.toNatClampNeg (l2 + 1)))) 51 (Int32.toNatClampNeg (l2 + 1)))) 52 (Int32.toNatClampNeg l2) ((up2 (up2 I 50 (Int32.toNatClampNeg l2) (I 50 (Int32.toNatClampNeg (l2 + 1)))) 51 (Int32.toNatClampNeg l2) ((up2 I 50 (Int32.toNatClampNeg l2) (I 50 (Int32.toNatClampNeg (l2 + 1)))) 51 (Int32.toNatClampNeg (l2 + 1)))) 52 (Int32.toNatClampNeg (l2 + 1)))) 53 (Int32.toNatClampNeg l2) ((up2 (up2 (up2 I 50 (Int32.toNatClampNeg l2) (I 50 (Int32.toNatClampNeg (l2 + 1)))) 51 (Int32.toNatClampNeg l2) ((up2 I 50 (Int32.toNatClampNeg l2) (I 50 (Int32.toNatClampNeg (l2 + 1)))) 51 (Int32.toNatClampNeg (l2 + 1)))) 52 (Int32.toNatClampNeg l2) ((up2 (up2 I 50 (Int32.toNatClampNeg l2) (I 50 (Int32.toNatClampNeg (l2 + 1)))) 51 (Int32.toNatClampNeg l2) ((up2 I 50 (Int32.toNatClampNeg l2) (I 50 (Int32.toNatClampNeg (l2 + 1)))) 51 (Int32.toNatClampNeg (l2 + 1)))) 52 (Int32.toNatClampNeg (l2 + 1)))) 53 (Int32.toNatClampNeg (l2 + 1)))) 54 (Int32.toNatClampNeg (l2 + 1)))) 55 (Int32.toNatClampNeg l2) ((up2 (up2 (up2 (up2 (up2 I 50 (Int32.toNatClampNeg l2) (I 50 (Int32.toNatClampNeg (l2 + 1)))) 51 (Int32.toNatClampNeg l2) ((up2 I 50 (Int32.toNatClampNeg l2) (I 50 (Int32.toNatClampNeg (l2 + 1)))) 51 (Int32.toNatClampNeg (l2 + 1)))) 52 (Int32.toNatClampNeg l2) ((up2 (up2 I 50 (Int32.toNatClampNeg l2) (I 50 (Int32.toNatClampNeg (l2 + 1)))) 51 (Int32.toNatClampNeg l2) ((up2 I 50 (Int32.toNatClampNeg l2) (I 50 (Int32.toNatClampNeg (l2 + 1)))) 51 (Int32.toNatClampNeg (l2 + 1)))) 52 (Int32.toNatClampNeg (l2 + 1)))) 53 (Int32.toNatClampNeg l2) ((up2 (up2 (up2 I 50 (Int32.toNatClampNeg l2) (I 50 (Int32.toNatClampNeg (l2 + 1)))) 51 (Int32.toNatClampNeg l2) ((up2 I 50 (Int32.toNatClampNeg l2) (I 50 (Int32.toNatClampNeg (l2 + 1)))) 51 (Int32.toNatClampNeg (l2 + 1)))) 52 (Int32.toNatClampNeg l2) ((up2 (up2 I 50 (Int32.toNatClampNeg l2) (I 50 (Int32.toNatClampNeg (l2 + 1)))) 51 (Int32.toNatClampNeg l2) ((up2 I 50 (Int32.toNatClampNeg l2) (I 50 (Int32.toNatClampNeg (l2 + 1)))) 51 (Int32.toNatClampNeg (l2 + 1)))) 52 (Int32.toNatClampNeg (l2 + 1)))) 53 (Int32.toNatClampNeg (l2 + 1)))) 54 (Int32.toNatClampNeg l2) ((up2 (up2 (up2 (up2 I 50 (Int32.toNatClampNeg l2) (I 50 (Int32.toNatClampNeg (l2 + 1)))) 51 (Int32.toNatClampNeg l2) ((up2 I 50 (Int32.toNatClampNeg l2) (I 50 (Int32.toNatClampNeg (l2 + 1)))) 51 (Int32.toNatClampNeg (l2 + 1)))) 52 (Int32.toNatClampNeg l2) ((up2 (up2 I 50 (Int32.toNatClampNeg l2) (I 50 (Int32.toNatClampNeg (l2 + 1)))) 51 (Int32.toNatClampNeg l2) ((up2 I 50 (Int32.toNatClampNeg l2) (I 50 (Int32.toNatClampNeg (l2 + 1)))) 51 (Int32.toNatClampNeg (l2 + 1)))) 52 (Int32.toNatClampNeg (l2 + 1)))) 53 (Int32.toNatClampNeg l2) ((up2 (up2 (up2 I 50 (Int32.toNatClampNeg l2) (I 50 (Int32.toNatClampNeg (l2 + 1)))) 51 (Int32.toNatClampNeg l2) ((up2 I 50 (Int32.toNatClampNeg l2) (I 50 (Int32.toNatClampNeg (l2 + 1)))) 51 (Int32.toNatClampNeg (l2 + 1)))) 52 (Int32.toNatClampNeg l2) ((up2 (up2 I 50 (Int32.toNatClampNeg l2) (I 50 (Int32.toNatClampNeg (l2 + 1)))) 51 (Int32.toNatClampNeg l2) ((up2 I 50 (Int32.toNatClampNeg l2) (I 50 (Int32.toNatClampNeg (l2 + 1)))) 51 (Int32.toNatClampNeg (l2 + 1)))) 52 (Int32.toNatClampNeg (l2 + 1)))) 53 (Int32.toNatClampNeg (l2 + 1)))) 54 (Int32.toNatClampNeg (l2 + 1)))) 55 (Int32.toNatClampNeg (l2 + 1)))) 56 (Int32.toNatClampNeg (l2 + 1)))) J))))))))))))))) else evK (d + 1) 203 146 [.ref 46, .int l1, .int l2] [] (den d 179 [.ref 46, .int (I 46 2)] (S sl p I J))) := by
  refine (r_iln (dk D203 16 rfl) rfl).trans ?_
  refine (r_aln (dk D203 17 rfl) rfl).trans ?_
  refine (r_getI (dk D203 18 rfl) ow203 q12_196 ob_46).trans ?_
  refine (r_ge (dk D203 19 rfl) rfl).trans (ite2 ?_ ?_)
  · refine (r_aln (dk D203 20 rfl) rfl).trans ?_
    refine (r_getR (dk D203 21 rfl) ow203 q12_38 ob_46 rfl).trans ?_
    refine (r_iln (dk D203 22 rfl) rfl).trans ?_
    refine (r_aln (dk D203 23 rfl) rfl).trans ?_
    refine (r_getR (dk D203 24 rfl) ow203 q12_38 ob_46 rfl).trans ?_
    refine (r_iln (dk D203 25 rfl) rfl).trans ?_
    refine (r_ic (dk D203 26 rfl) ci1).trans ?_
    refine (r_iadd (dk D203 27 rfl)).trans ?_
    refine (r_ild (dk D203 28 rfl) ar_50).trans (ck3 fun g1 => ?_)
    refine (r_ist (dk D203 29 rfl) ar_50).trans (ck3 fun g2 => ?_)
    refine (r_aln (dk D203 30 rfl) rfl).trans ?_
    refine (r_getR (dk D203 31 rfl) ow203 q12_41 ob_46 rfl).trans ?_
    refine (r_iln (dk D203 32 rfl) rfl).trans ?_
    refine (r_aln (dk D203 33 rfl) rfl).trans ?_
    refine (r_getR (dk D203 34 rfl) ow203 q12_41 ob_46 rfl).trans ?_
    refine (r_iln (dk D203 35 rfl) rfl).trans ?_
    refine (r_ic (dk D203 36 rfl) ci1).trans ?_
    refine (r_iadd (dk D203 37 rfl)).trans ?_
    refine (r_ild (dk D203 38 rfl) ar_51).trans (ck3 fun g3 => ?_)
    refine (r_ist (dk D203 39 rfl) ar_51).trans (ck3 fun g4 => ?_)
    refine (r_aln (dk D203 40 rfl) rfl).trans ?_
    refine (r_getR (dk D203 41 rfl) ow203 q12_44 ob_46 rfl).trans ?_
    refine (r_iln (dk D203 42 rfl) rfl).trans ?_
    refine (r_aln (dk D203 43 rfl) rfl).trans ?_
    refine (r_getR (dk D203 44 rfl) ow203 q12_44 ob_46 rfl).trans ?_
    refine (r_iln (dk D203 45 rfl) rfl).trans ?_
    refine (r_ic (dk D203 46 rfl) ci1).trans ?_
    refine (r_iadd (dk D203 47 rfl)).trans ?_
    refine (r_ild (dk D203 48 rfl) ar_52).trans (ck3 fun g5 => ?_)
    refine (r_ist (dk D203 49 rfl) ar_52).trans (ck3 fun g6 => ?_)
    refine (r_aln (dk D203 50 rfl) rfl).trans ?_
    refine (r_getR (dk D203 51 rfl) ow203 q12_47 ob_46 rfl).trans ?_
    refine (r_iln (dk D203 52 rfl) rfl).trans ?_
    refine (r_aln (dk D203 53 rfl) rfl).trans ?_
    refine (r_getR (dk D203 54 rfl) ow203 q12_47 ob_46 rfl).trans ?_
    refine (r_iln (dk D203 55 rfl) rfl).trans ?_
    refine (r_ic (dk D203 56 rfl) ci1).trans ?_
    refine (r_iadd (dk D203 57 rfl)).trans ?_
    refine (r_ild (dk D203 58 rfl) ar_53).trans (ck3 fun g7 => ?_)
    refine (r_ist (dk D203 59 rfl) ar_53).trans (ck3 fun g8 => ?_)
    refine (r_aln (dk D203 60 rfl) rfl).trans ?_
    refine (r_getR (dk D203 61 rfl) ow203 q12_50 ob_46 rfl).trans ?_
    refine (r_iln (dk D203 62 rfl) rfl).trans ?_
    refine (r_aln (dk D203 63 rfl) rfl).trans ?_
    refine (r_getR (dk D203 64 rfl) ow203 q12_50 ob_46 rfl).trans ?_
    refine (r_iln (dk D203 65 rfl) rfl).trans ?_
    refine (r_ic (dk D203 66 rfl) ci1).trans ?_
    refine (r_iadd (dk D203 67 rfl)).trans ?_
    refine (r_ild (dk D203 68 rfl) ar_54).trans (ck3 fun g9 => ?_)
    refine (r_ist (dk D203 69 rfl) ar_54).trans (ck3 fun g10 => ?_)
    refine (r_aln (dk D203 70 rfl) rfl).trans ?_
    refine (r_getR (dk D203 71 rfl) ow203 q12_53 ob_46 rfl).trans ?_
    refine (r_iln (dk D203 72 rfl) rfl).trans ?_
    refine (r_aln (dk D203 73 rfl) rfl).trans ?_
    refine (r_getR (dk D203 74 rfl) ow203 q12_53 ob_46 rfl).trans ?_
    refine (r_iln (dk D203 75 rfl) rfl).trans ?_
    refine (r_ic (dk D203 76 rfl) ci1).trans ?_
    refine (r_iadd (dk D203 77 rfl)).trans ?_
    refine (r_ild (dk D203 78 rfl) ar_55).trans (ck3 fun g11 => ?_)
    refine (r_ist (dk D203 79 rfl) ar_55).trans (ck3 fun g12 => ?_)
    refine (r_aln (dk D203 80 rfl) rfl).trans ?_
    refine (r_getR (dk D203 81 rfl) ow203 q12_56 ob_46 rfl).trans ?_
    refine (r_iln (dk D203 82 rfl) rfl).trans ?_
    refine (r_aln (dk D203 83 rfl) rfl).trans ?_
    refine (r_getR (dk D203 84 rfl) ow203 q12_56 ob_46 rfl).trans ?_
    refine (r_iln (dk D203 85 rfl) rfl).trans ?_
    refine (r_ic (dk D203 86 rfl) ci1).trans ?_
    refine (r_iadd (dk D203 87 rfl)).trans ?_
    refine (r_ild (dk D203 88 rfl) ar_56).trans (ck3 fun g13 => ?_)
    refine (r_ist (dk D203 89 rfl) ar_56).trans (ck3 fun g14 => ?_)
    refine (r_inc (L' := [.ref 46, .int l1, .int (l2 + 1)]) (dk D203 90 rfl) rfl rfl ci1 (Nat.le_of_ble_eq_true rfl) rfl).trans ?_
    refine (r_goto (L' := [.ref 46, .int l1, .int (l2 + 1)]) (dk D203 91 rfl) rfl nd203_26 rfl).trans ?_
    exact rfl
  · refine (r_aln (dk D203 92 rfl) rfl).trans ?_
    refine (r_aln (dk D203 93 rfl) rfl).trans ?_
    refine (r_getI (dk D203 94 rfl) ow203 q12_196 ob_46).trans ?_
    exact r_cv (dk D203 95 rfl) ow203 c12_193 mf179 (Nat.le_of_ble_eq_true rfl) rfl rfl (Nat.le_of_ble_eq_true rfl) (Nat.le_of_ble_eq_true rfl) ob_46
theorem E203_146 {d sl : Nat} {p : Nat → Nat} {I : Nat → Nat → Int32} {J : Nat → Nat → Int64} (l1 : Int32) (l2 : Int32) (s0 : Int32)  : ev d 203 146 [.ref 46, .int l1, .int l2] [.int s0] (S sl p I J) = some (some (.int s0), (S sl p I J)) := by
  exact r_ret (dk D203 96 rfl) rt203
set_option maxRecDepth 20000 in
theorem D204 : dOK 204 [(0, .iload_n 1, 1), (1, .iconst 1, 1), (2, .bipush 45, 2), (4, .invokestatic 178, 3), (7, .ifCond .eq 13, 3), (10, .iload_n 2, 1), (11, .iconst 2, 1), (12, .bipush 20, 2), (14, .invokestatic 178, 3), (17, .ifCond .ne 9, 3), (20, .aload_n 0, 1), (21, .iconst 1, 1), (22, .invokevirtual 183, 3), (25, .ireturn, 1), (26, .bipush 100, 2), (28, .aload_n 0, 1), (29, .getfield 7, 3), (32, .imul, 1), (33, .aload_n 0, 1), (34, .getfield 13, 3), (37, .iadd, 1), (38, .istore_n 3, 1), (39, .aload_n 0, 1), (40, .iload_n 1, 1), (41, .putfield 7, 3), (44, .aload_n 0, 1), (45, .iload_n 2, 1), (46, .putfield 13, 3), (49, .aload_n 0, 1), (50, .iload_n 3, 1), (51, .invokevirtual 193, 3), (54, .ireturn, 1)] = true := by decide +kernel
theorem E204_0 {d sl : Nat} {p : Nat → Nat} {I : Nat → Nat → Int32} {J : Nat → Nat → Int64} (a1 : Int32) (a2 : Int32)  : den (d + 1) 204 [.ref 46, .int a1, .int a2] (S sl p I J) = evK (d + 1) 204 7 [.ref 46, .int a1, .int a2, .retAddr 0] [] (den d 181 [.int a1, .int 1, .int 45] (S sl p I J)) := by
  refine (show den (d + 1) 204 [.ref 46, .int a1, .int a2] (S sl p I J) = ev (d + 1) 204 0 [.ref 46, .int a1, .int a2, .retAddr 0] [] (S sl p I J) from rfl).trans ?_
  refine (r_iln (dk D204 0 rfl) rfl).trans ?_
  refine (r_ic (dk D204 1 rfl) ci1).trans ?_
  refine (r_bp (dk D204 2 rfl) cb45).trans ?_
  exact r_cs (dk D204 3 rfl) ow204 pn12_178 c12_178 mf181 (Nat.le_of_ble_eq_true rfl) rfl rfl (Nat.le_of_ble_eq_true rfl) (Nat.le_of_ble_eq_true rfl)
theorem E204_7 {d sl : Nat} {p : Nat → Nat} {I : Nat → Nat → Int32} {J : Nat → Nat → Int64} (l1 : Int32) (l2 : Int32) (s0 : Int32)  : ev (d + 1) 204 7 [.ref 46, .int l1, .int l2, .retAddr 0] [.int s0] (S sl p I J) = (if s0 = 0 then ev (d + 1) 204 20 [.ref 46, .int l1, .int l2, .retAddr 0] [] (S sl p I J) else evK (d + 1) 204 17 [.ref 46, .int l1, .int l2, .retAddr 0] [] (den d 181 [.int l2, .int 2, .int 20] (S sl p I J))) := by
  refine (r_eq0 (dk D204 4 rfl) rfl).trans (ite2 ?_ ?_)
  · exact rfl
  · refine (r_iln (dk D204 5 rfl) rfl).trans ?_
    refine (r_ic (dk D204 6 rfl) ci2).trans ?_
    refine (r_bp (dk D204 7 rfl) cb20).trans ?_
    exact r_cs (dk D204 8 rfl) ow204 pn12_178 c12_178 mf181 (Nat.le_of_ble_eq_true rfl) rfl rfl (Nat.le_of_ble_eq_true rfl) (Nat.le_of_ble_eq_true rfl)
theorem E204_17 {d sl : Nat} {p : Nat → Nat} {I : Nat → Nat → Int32} {J : Nat → Nat → Int64} (l1 : Int32) (l2 : Int32) (s0 : Int32)  : ev (d + 1) 204 17 [.ref 46, .int l1, .int l2, .retAddr 0] [.int s0] (S sl p I J) = (if s0 = 0 then ev (d + 1) 204 20 [.ref 46, .int l1, .int l2, .retAddr 0] [] (S sl p I J) else evK (d + 1) 204 54 [.ref 46, .int l1, .int l2, .int ((100 * (I 46 3)) + (I 46 4))] [] (den d 179 [.ref 46, .int ((100 * (I 46 3)) + (I 46 4))] (S sl p (up2 (up2 I 46 3 l1) 46 4 l2) J))) := by
  refine (r_ne0 (dk D204 9 rfl) rfl).trans (ite2 ?_ ?_)
  · exact rfl
  · refine (r_bp (dk D204 14 rfl) cb100).trans ?_
    refine (r_aln (dk D204 15 rfl) rfl).trans ?_
    refine (r_getI (dk D204 16 rfl) ow204 q12_7 ob_46).trans ?_
    refine (r_imul (dk D204 17 rfl)).trans ?_
    refine (r_aln (dk D204 18 rfl) rfl).trans ?_
    refine (r_getI (dk D204 19 rfl) ow204 q12_13 ob_46).trans ?_
    refine (r_iadd (dk D204 20 rfl)).trans ?_
    refine (r_isn (L' := [.ref 46, .int l1, .int l2, .int ((100 * (I 46 3)) + (I 46 4))]) (dk D204 21 rfl) (Nat.le_of_ble_eq_true rfl) rfl).trans ?_
    refine (r_aln (dk D204 22 rfl) rfl).trans ?_
    refine (r_iln (dk D204 23 rfl) rfl).trans ?_
    refine (r_putI (dk D204 24 rfl) ow204 w12_7 ob_46).trans ?_
    refine (r_aln (dk D204 25 rfl) rfl).trans ?_
    refine (r_iln (dk D204 26 rfl) rfl).trans ?_
    refine (r_putI (dk D204 27 rfl) ow204 w12_13 ob_46).trans ?_
    refine (r_aln (dk D204 28 rfl) rfl).trans ?_
    refine (r_iln (dk D204 29 rfl) rfl).trans ?_
    exact r_cv (dk D204 30 rfl) ow204 c12_193 mf179 (Nat.le_of_ble_eq_true rfl) rfl rfl (Nat.le_of_ble_eq_true rfl) (Nat.le_of_ble_eq_true rfl) ob_46
theorem E204_20 {d sl : Nat} {p : Nat → Nat} {I : Nat → Nat → Int32} {J : Nat → Nat → Int64} (l1 : Int32) (l2 : Int32)  : ev (d + 1) 204 20 [.ref 46, .int l1, .int l2, .retAddr 0] [] (S sl p I J) = evK (d + 1) 204 25 [.ref 46, .int l1, .int l2, .retAddr 0] [] (den d 178 [.ref 46, .int 1] (S sl p I J)) := by
  refine (r_aln (dk D204 10 rfl) rfl).trans ?_
  refine (r_ic (dk D204 11 rfl) ci1).trans ?_
  exact r_cv (dk D204 12 rfl) ow204 c12_183 mf178 (Nat.le_of_ble_eq_true rfl) rfl rfl (Nat.le_of_ble_eq_true rfl) (Nat.le_of_ble_eq_true rfl) ob_46
theorem E204_25 {d sl : Nat} {p : Nat → Nat} {I : Nat → Nat → Int32} {J : Nat → Nat → Int64} (l1 : Int32) (l2 : Int32) (s0 : Int32)  : ev d 204 25 [.ref 46, .int l1, .int l2, .retAddr 0] [.int s0] (S sl p I J) = some (some (.int s0), (S sl p I J)) := by
  exact r_ret (dk D204 13 rfl) rt204
theorem E204_54 {d sl : Nat} {p : Nat → Nat} {I : Nat → Nat → Int32} {J : Nat → Nat → Int64} (l1 : Int32) (l2 : Int32) (l3 : Int32) (s0 : Int32)  : ev d 204 54 [.ref 46, .int l1, .int l2, .int l3] [.int s0] (S sl p I J) = some (some (.int s0), (S sl p I J)) := by
  exact r_ret (dk D204 31 rfl) rt204
set_option maxRecDepth 20000 in
theorem D205 : dOK 205 [(0, .iload_n 1, 1), (1, .iconst 1, 1), (2, .bipush 20, 2), (4, .invokestatic 178, 3), (7, .ifCond .ne 9, 3), (10, .aload_n 0, 1), (11, .iconst 1, 1), (12, .invokevirtual 183, 3), (15, .ireturn, 1), (16, .aload_n 0, 1), (17, .getfield 16, 3), (20, .istore_n 2, 1), (21, .aload_n 0, 1), (22, .iload_n 1, 1), (23, .putfield 16, 3), (26, .aload_n 0, 1), (27, .iload_n 2, 1), (28, .invokevirtual 193, 3), (31, .ireturn, 1)] = true := by decide +kernel
theorem E205_0 {d sl : Nat} {p : Nat → Nat} {I : Nat → Nat → Int32} {J : Nat → Nat → Int64} (a1 : Int32)  : den (d + 1) 205 [.ref 46, .int a1] (S sl p I J) = evK (d + 1) 205 7 [.ref 46, .int a1, .retAddr 0] [] (den d 181 [.int a1, .int 1, .int 20] (S sl p I J)) := by
  refine (show den (d + 1) 205 [.ref 46, .int a1] (S sl p I J) = ev (d + 1) 205 0 [.ref 46, .int a1, .retAddr 0] [] (S sl p I J) from rfl).trans ?_
  refine (r_iln (dk D205 0 rfl) rfl).trans ?_
  refine (r_ic (dk D205 1 rfl) ci1).trans ?_
  refine (r_bp (dk D205 2 rfl) cb20).trans ?_
  exact r_cs (dk D205 3 rfl) ow205 pn12_178 c12_178 mf181 (Nat.le_of_ble_eq_true rfl) rfl rfl (Nat.le_of_ble_eq_true rfl) (Nat.le_of_ble_eq_true rfl)
theorem E205_7 {d sl : Nat} {p : Nat → Nat} {I : Nat → Nat → Int32} {J : Nat → Nat → Int64} (l1 : Int32) (s0 : Int32)  : ev (d + 1) 205 7 [.ref 46, .int l1, .retAddr 0] [.int s0] (S sl p I J) = (if s0 = 0 then evK (d + 1) 205 15 [.ref 46, .int l1, .retAddr 0] [] (den d 178 [.ref 46, .int 1] (S sl p I J)) else evK (d + 1) 205 31 [.ref 46, .int l1, .int (I 46 5)] [] (den d 179 [.ref 46, .int (I 46 5)] (S sl p (up2 I 46 5 l1) J))) := by
  refine (r_ne0 (dk D205 4 rfl) rfl).trans (ite2 ?_ ?_)
  · refine (r_aln (dk D205 5 rfl) rfl).trans ?_
    refine (r_ic (dk D205 6 rfl) ci1).trans ?_
    exact r_cv (dk D205 7 rfl) ow205 c12_183 mf178 (Nat.le_of_ble_eq_true rfl) rfl rfl (Nat.le_of_ble_eq_true rfl) (Nat.le_of_ble_eq_true rfl) ob_46
  · refine (r_aln (dk D205 9 rfl) rfl).trans ?_
    refine (r_getI (dk D205 10 rfl) ow205 q12_16 ob_46).trans ?_
    refine (r_isn (L' := [.ref 46, .int l1, .int (I 46 5)]) (dk D205 11 rfl) (Nat.le_of_ble_eq_true rfl) rfl).trans ?_
    refine (r_aln (dk D205 12 rfl) rfl).trans ?_
    refine (r_iln (dk D205 13 rfl) rfl).trans ?_
    refine (r_putI (dk D205 14 rfl) ow205 w12_16 ob_46).trans ?_
    refine (r_aln (dk D205 15 rfl) rfl).trans ?_
    refine (r_iln (dk D205 16 rfl) rfl).trans ?_
    exact r_cv (dk D205 17 rfl) ow205 c12_193 mf179 (Nat.le_of_ble_eq_true rfl) rfl rfl (Nat.le_of_ble_eq_true rfl) (Nat.le_of_ble_eq_true rfl) ob_46
theorem E205_15 {d sl : Nat} {p : Nat → Nat} {I : Nat → Nat → Int32} {J : Nat → Nat → Int64} (l1 : Int32) (s0 : Int32)  : ev d 205 15 [.ref 46, .int l1, .retAddr 0] [.int s0] (S sl p I J) = some (some (.int s0), (S sl p I J)) := by
  exact r_ret (dk D205 8 rfl) rt205
theorem E205_31 {d sl : Nat} {p : Nat → Nat} {I : Nat → Nat → Int32} {J : Nat → Nat → Int64} (l1 : Int32) (l2 : Int32) (s0 : Int32)  : ev d 205 31 [.ref 46, .int l1, .int l2] [.int s0] (S sl p I J) = some (some (.int s0), (S sl p I J)) := by
  exact r_ret (dk D205 18 rfl) rt205
set_option maxRecDepth 20000 in
theorem D206 : dOK 206 [(0, .iload_n 1, 1), (1, .iconst 0, 1), (2, .sipush 359, 3), (5, .invokestatic 178, 3), (8, .ifCond .eq 34, 3), (11, .iload_n 2, 1), (12, .iconst 1, 1), (13, .bipush 90, 2), (15, .invokestatic 178, 3), (18, .ifCond .eq 24, 3), (21, .iload_n 3, 1), (22, .iconst 0, 1), (23, .bipush 89, 2), (25, .invokestatic 178, 3), (28, .ifCond .eq 14, 3), (31, .iload 4, 2), (33, .iconst 0, 1), (34, .bipush 45, 2), (36, .invokestatic 178, 3), (39, .ifCond .ne 9, 3), (42, .aload_n 0, 1), (43, .iconst 1, 1), (44, .invokevirtual 183, 3), (47, .ireturn, 1), (48, .aload_n 0, 1), (49, .iload_n 1, 1), (50, .putfield 213, 3), (53, .aload_n 0, 1), (54, .iload_n 2, 1), (55, .putfield 19, 3), (58, .aload_n 0, 1), (59, .iload_n 3, 1), (60, .putfield 22, 3), (63, .aload_n 0, 1), (64, .iload 4, 2), (66, .putfield 25, 3), (69, .aload_n 0, 1), (70, .invokevirtual 216, 3), (73, .aload_n 0, 1), (74, .aload_n 0, 1), (75, .invokevirtual 219, 3), (78, .invokestatic 223, 3), (81, .invokevirtual 193, 3), (84, .ireturn, 1)] = true := by decide +kernel
theorem E206_0 {d sl : Nat} {p : Nat → Nat} {I : Nat → Nat → Int32} {J : Nat → Nat → Int64} (a1 : Int32) (a2 : Int32) (a3 : Int32) (a4 : Int32)  : den (d + 1) 206 [.ref 46, .int a1, .int a2, .int a3, .int a4] (S sl p I J) = evK (d + 1) 206 8 [.ref 46, .int a1, .int a2, .int a3, .int a4] [] (den d 181 [.int a1, .int 0, .int 359] (S sl p I J)) := by
  refine (show den (d + 1) 206 [.ref 46, .int a1, .int a2, .int a3, .int a4] (S sl p I J) = ev (d + 1) 206 0 [.ref 46, .int a1, .int a2, .int a3, .int a4] [] (S sl p I J) from rfl).trans ?_
  refine (r_iln (dk D206 0 rfl) rfl).trans ?_
  refine (r_ic (dk D206 1 rfl) ci0).trans ?_
  refine (r_sp (dk D206 2 rfl) cs359).trans ?_
  exact r_cs (dk D206 3 rfl) ow206 pn12_178 c12_178 mf181 (Nat.le_of_ble_eq_true rfl) rfl rfl (Nat.le_of_ble_eq_true rfl) (Nat.le_of_ble_eq_true rfl)
theorem E206_8 {d sl : Nat} {p : Nat → Nat} {I : Nat → Nat → Int32} {J : Nat → Nat → Int64} (l1 : Int32) (l2 : Int32) (l3 : Int32) (l4 : Int32) (s0 : Int32)  : ev (d + 1) 206 8 [.ref 46, .int l1, .int l2, .int l3, .int l4] [.int s0] (S sl p I J) = (if s0 = 0 then ev (d + 1) 206 42 [.ref 46, .int l1, .int l2, .int l3, .int l4] [] (S sl p I J) else evK (d + 1) 206 18 [.ref 46, .int l1, .int l2, .int l3, .int l4] [] (den d 181 [.int l2, .int 1, .int 90] (S sl p I J))) := by
  refine (r_eq0 (dk D206 4 rfl) rfl).trans (ite2 ?_ ?_)
  · exact rfl
  · refine (r_iln (dk D206 5 rfl) rfl).trans ?_
    refine (r_ic (dk D206 6 rfl) ci1).trans ?_
    refine (r_bp (dk D206 7 rfl) cb90).trans ?_
    exact r_cs (dk D206 8 rfl) ow206 pn12_178 c12_178 mf181 (Nat.le_of_ble_eq_true rfl) rfl rfl (Nat.le_of_ble_eq_true rfl) (Nat.le_of_ble_eq_true rfl)
theorem E206_18 {d sl : Nat} {p : Nat → Nat} {I : Nat → Nat → Int32} {J : Nat → Nat → Int64} (l1 : Int32) (l2 : Int32) (l3 : Int32) (l4 : Int32) (s0 : Int32)  : ev (d + 1) 206 18 [.ref 46, .int l1, .int l2, .int l3, .int l4] [.int s0] (S sl p I J) = (if s0 = 0 then ev (d + 1) 206 42 [.ref 46, .int l1, .int l2, .int l3, .int l4] [] (S sl p I J) else evK (d + 1) 206 28 [.ref 46, .int l1, .int l2, .int l3, .int l4] [] (den d 181 [.int l3, .int 0, .int 89] (S sl p I J))) := by
  refine (r_eq0 (dk D206 9 rfl) rfl).trans (ite2 ?_ ?_)
  · exact rfl
  · refine (r_iln (dk D206 10 rfl) rfl).trans ?_
    refine (r_ic (dk D206 11 rfl) ci0).trans ?_
    refine (r_bp (dk D206 12 rfl) cb89).trans ?_
    exact r_cs (dk D206 13 rfl) ow206 pn12_178 c12_178 mf181 (Nat.le_of_ble_eq_true rfl) rfl rfl (Nat.le_of_ble_eq_true rfl) (Nat.le_of_ble_eq_true rfl)
theorem E206_28 {d sl : Nat} {p : Nat → Nat} {I : Nat → Nat → Int32} {J : Nat → Nat → Int64} (l1 : Int32) (l2 : Int32) (l3 : Int32) (l4 : Int32) (s0 : Int32)  : ev (d + 1) 206 28 [.ref 46, .int l1, .int l2, .int l3, .int l4] [.int s0] (S sl p I J) = (if s0 = 0 then ev (d + 1) 206 42 [.ref 46, .int l1, .int l2, .int l3, .int l4] [] (S sl p I J) else evK (d + 1) 206 39 [.ref 46, .int l1, .int l2, .int l3, .int l4] [] (den d 181 [.int l4, .int 0, .int 45] (S sl p I J))) := by
  refine (r_eq0 (dk D206 14 rfl) rfl).trans (ite2 ?_ ?_)
  · exact rfl
  · refine (r_il (dk D206 15 rfl) rfl).trans ?_
    refine (r_ic (dk D206 16 rfl) ci0).trans ?_
    refine (r_bp (dk D206 17 rfl) cb45).trans ?_
    exact r_cs (dk D206 18 rfl) ow206 pn12_178 c12_178 mf181 (Nat.le_of_ble_eq_true rfl) rfl rfl (Nat.le_of_ble_eq_true rfl) (Nat.le_of_ble_eq_true rfl)
theorem E206_39 {d sl : Nat} {p : Nat → Nat} {I : Nat → Nat → Int32} {J : Nat → Nat → Int64} (l1 : Int32) (l2 : Int32) (l3 : Int32) (l4 : Int32) (s0 : Int32)  : ev (d + 1) 206 39 [.ref 46, .int l1, .int l2, .int l3, .int l4] [.int s0] (S sl p I J) = (if s0 = 0 then ev (d + 1) 206 42 [.ref 46, .int l1, .int l2, .int l3, .int l4] [] (S sl p I J) else evK (d + 1) 206 73 [.ref 46, .int l1, .int l2, .int l3, .int l4] [] (den d 210 [.ref 46] (S sl p (up2 (up2 (up2 (up2 I 46 6 l1) 46 7 l2) 46 8 l3) 46 9 l4) J))) := by
  refine (r_ne0 (dk D206 19 rfl) rfl).trans (ite2 ?_ ?_)
  · exact rfl
  · refine (r_aln (dk D206 24 rfl) rfl).trans ?_
    refine (r_iln (dk D206 25 rfl) rfl).trans ?_
    refine (r_putI (dk D206 26 rfl) ow206 w12_213 ob_46).trans ?_
    refine (r_aln (dk D206 27 rfl) rfl).trans ?_
    refine (r_iln (dk D206 28 rfl) rfl).trans ?_
    refine (r_putI (dk D206 29 rfl) ow206 w12_19 ob_46).trans ?_
    refine (r_aln (dk D206 30 rfl) rfl).trans ?_
    refine (r_iln (dk D206 31 rfl) rfl).trans ?_
    refine (r_putI (dk D206 32 rfl) ow206 w12_22 ob_46).trans ?_
    refine (r_aln (dk D206 33 rfl) rfl).trans ?_
    refine (r_il (dk D206 34 rfl) rfl).trans ?_
    refine (r_putI (dk D206 35 rfl) ow206 w12_25 ob_46).trans ?_
    refine (r_aln (dk D206 36 rfl) rfl).trans ?_
    exact r_cv (dk D206 37 rfl) ow206 c12_216 mf210 (Nat.le_of_ble_eq_true rfl) rfl rfl (Nat.le_of_ble_eq_true rfl) (Nat.le_of_ble_eq_true rfl) ob_46
theorem E206_42 {d sl : Nat} {p : Nat → Nat} {I : Nat → Nat → Int32} {J : Nat → Nat → Int64} (l1 : Int32) (l2 : Int32) (l3 : Int32) (l4 : Int32)  : ev (d + 1) 206 42 [.ref 46, .int l1, .int l2, .int l3, .int l4] [] (S sl p I J) = evK (d + 1) 206 47 [.ref 46, .int l1, .int l2, .int l3, .int l4] [] (den d 178 [.ref 46, .int 1] (S sl p I J)) := by
  refine (r_aln (dk D206 20 rfl) rfl).trans ?_
  refine (r_ic (dk D206 21 rfl) ci1).trans ?_
  exact r_cv (dk D206 22 rfl) ow206 c12_183 mf178 (Nat.le_of_ble_eq_true rfl) rfl rfl (Nat.le_of_ble_eq_true rfl) (Nat.le_of_ble_eq_true rfl) ob_46
theorem E206_47 {d sl : Nat} {p : Nat → Nat} {I : Nat → Nat → Int32} {J : Nat → Nat → Int64} (l1 : Int32) (l2 : Int32) (l3 : Int32) (l4 : Int32) (s0 : Int32)  : ev d 206 47 [.ref 46, .int l1, .int l2, .int l3, .int l4] [.int s0] (S sl p I J) = some (some (.int s0), (S sl p I J)) := by
  exact r_ret (dk D206 23 rfl) rt206
theorem E206_73 {d sl : Nat} {p : Nat → Nat} {I : Nat → Nat → Int32} {J : Nat → Nat → Int64} (l1 : Int32) (l2 : Int32) (l3 : Int32) (l4 : Int32)  : ev (d + 1) 206 73 [.ref 46, .int l1, .int l2, .int l3, .int l4] [] (S sl p I J) = evK (d + 1) 206 78 [.ref 46, .int l1, .int l2, .int l3, .int l4] [.ref 46] (den d 293 [.ref 46] (S sl p I J)) := by
  refine (r_aln (dk D206 38 rfl) rfl).trans ?_
  refine (r_aln (dk D206 39 rfl) rfl).trans ?_
  exact r_cv (dk D206 40 rfl) ow206 c12_219 mf293 (Nat.le_of_ble_eq_true rfl) rfl rfl (Nat.le_of_ble_eq_true rfl) (Nat.le_of_ble_eq_true rfl) ob_46
theorem E206_78 {d sl : Nat} {p : Nat → Nat} {I : Nat → Nat → Int32} {J : Nat → Nat → Int64} (l1 : Int32) (l2 : Int32) (l3 : Int32) (l4 : Int32) (s0 : Int32)  : ev (d + 1) 206 78 [.ref 46, .int l1, .int l2, .int l3, .int l4] [.int s0, .ref 46] (S sl p I J) = evK (d + 1) 206 81 [.ref 46, .int l1, .int l2, .int l3, .int l4] [.ref 46] (den d 291 [.int s0] (S sl p I J)) := by
  exact r_cs (dk D206 41 rfl) ow206 pn12_223 c12_223 mf291 (Nat.le_of_ble_eq_true rfl) rfl rfl (Nat.le_of_ble_eq_true rfl) (Nat.le_of_ble_eq_true rfl)
theorem E206_81 {d sl : Nat} {p : Nat → Nat} {I : Nat → Nat → Int32} {J : Nat → Nat → Int64} (l1 : Int32) (l2 : Int32) (l3 : Int32) (l4 : Int32) (s0 : Int32)  : ev (d + 1) 206 81 [.ref 46, .int l1, .int l2, .int l3, .int l4] [.int s0, .ref 46] (S sl p I J) = evK (d + 1) 206 84 [.ref 46, .int l1, .int l2, .int l3, .int l4] [] (den d 179 [.ref 46, .int s0] (S sl p I J)) := by
  exact r_cv (dk D206 42 rfl) ow206 c12_193 mf179 (Nat.le_of_ble_eq_true rfl) rfl rfl (Nat.le_of_ble_eq_true rfl) (Nat.le_of_ble_eq_true rfl) ob_46
theorem E206_84 {d sl : Nat} {p : Nat → Nat} {I : Nat → Nat → Int32} {J : Nat → Nat → Int64} (l1 : Int32) (l2 : Int32) (l3 : Int32) (l4 : Int32) (s0 : Int32)  : ev d 206 84 [.ref 46, .int l1, .int l2, .int l3, .int l4] [.int s0] (S sl p I J) = some (some (.int s0), (S sl p I J)) := by
  exact r_ret (dk D206 43 rfl) rt206
set_option maxRecDepth 20000 in
theorem D207 : dOK 207 [(0, .bipush 100, 2), (2, .aload_n 0, 1), (3, .getfield 41, 3), (6, .iload_n 1, 1), (7, .iaload, 1), (8, .aload_n 0, 1), (9, .getfield 44, 3), (12, .iload_n 1, 1), (13, .iaload, 1), (14, .invokestatic 120, 3), (17, .imul, 1), (18, .aload_n 0, 1), (19, .getfield 44, 3), (22, .iload_n 1, 1), (23, .iaload, 1), (24, .iadd, 1), (25, .ireturn, 1)] = true := by decide +kernel
theorem E207_0 {d sl : Nat} {p : Nat → Nat} {I : Nat → Nat → Int32} {J : Nat → Nat → Int64} (a1 : Int32)  : den (d + 1) 207 [.ref 46, .int a1] (S sl p I J) = ck (ixb 60 a1) (ck (ixb 60 a1) (evK (d + 1) 207 17 [.ref 46, .int a1] [.int 100] (den d 185 [.int (I 51 (Int32.toNatClampNeg a1)), .int (I 52 (Int32.toNatClampNeg a1))] (S sl p I J)))) := by
  refine (show den (d + 1) 207 [.ref 46, .int a1] (S sl p I J) = ev (d + 1) 207 0 [.ref 46, .int a1] [] (S sl p I J) from rfl).trans ?_
  refine (r_bp (dk D207 0 rfl) cb100).trans ?_
  refine (r_aln (dk D207 1 rfl) rfl).trans ?_
  refine (r_getR (dk D207 2 rfl) ow207 q12_41 ob_46 rfl).trans ?_
  refine (r_iln (dk D207 3 rfl) rfl).trans ?_
  refine (r_ild (dk D207 4 rfl) ar_51).trans (ck3 fun g1 => ?_)
  refine (r_aln (dk D207 5 rfl) rfl).trans ?_
  refine (r_getR (dk D207 6 rfl) ow207 q12_44 ob_46 rfl).trans ?_
  refine (r_iln (dk D207 7 rfl) rfl).trans ?_
  refine (r_ild (dk D207 8 rfl) ar_52).trans (ck3 fun g2 => ?_)
  exact r_cs (dk D207 9 rfl) ow207 pn12_120 c12_120 mf185 (Nat.le_of_ble_eq_true rfl) rfl rfl (Nat.le_of_ble_eq_true rfl) (Nat.le_of_ble_eq_true rfl)
theorem E207_17 {d sl : Nat} {p : Nat → Nat} {I : Nat → Nat → Int32} {J : Nat → Nat → Int64} (l1 : Int32) (s0 : Int32) (s1 : Int32)  : ev d 207 17 [.ref 46, .int l1] [.int s0, .int s1] (S sl p I J) = ck (ixb 60 l1) (some (some (.int ((s1 * s0) + (I 52 (Int32.toNatClampNeg l1)))), (S sl p I J))) := by
  refine (r_imul (dk D207 10 rfl)).trans ?_
  refine (r_aln (dk D207 11 rfl) rfl).trans ?_
  refine (r_getR (dk D207 12 rfl) ow207 q12_44 ob_46 rfl).trans ?_
  refine (r_iln (dk D207 13 rfl) rfl).trans ?_
  refine (r_ild (dk D207 14 rfl) ar_52).trans (ck3 fun g1 => ?_)
  refine (r_iadd (dk D207 15 rfl)).trans ?_
  exact r_ret (dk D207 16 rfl) rt207
set_option maxRecDepth 20000 in
theorem D208 : dOK 208 [(0, .aload_n 0, 1), (1, .iconst 0, 1), (2, .putfield 226, 3), (5, .iconst 0, 1), (6, .istore_n 3, 1), (7, .iload_n 3, 1), (8, .aload_n 0, 1), (9, .getfield 196, 3), (12, .if_icmp .ge 16, 3), (15, .aload_n 0, 1), (16, .getfield 68, 3), (19, .iload_n 3, 1), (20, .iconst (-1), 1), (21, .iastore, 1), (22, .iinc 3 1, 3), (25, .goto (-18), 3), (28, .iconst 0, 1), (29, .istore_n 3, 1), (30, .iload_n 3, 1), (31, .aload_n 0, 1), (32, .getfield 196, 3), (35, .if_icmp .ge 160, 3), (38, .iload_n 3, 1), (39, .iload_n 2, 1), (40, .if_icmp .eq 149, 3), (43, .aload_n 0, 1), (44, .getfield 68, 3), (47, .iload_n 3, 1), (48, .iaload, 1), (49, .iconst (-1), 1), (50, .if_icmp .eq 6, 3), (53, .goto 136, 3), (56, .aload_n 0, 1), (57, .getfield 68, 3), (60, .iload_n 3, 1), (61, .aload_n 0, 1), (62, .getfield 226, 3), (65, .iastore, 1), (66, .iconst 1, 1), (67, .istore 4, 2), (69, .iload 4, 2), (71, .ifCond .eq 108, 3), (74, .iconst 0, 1), (75, .istore 4, 2), (77, .iconst 0, 1), (78, .istore 5, 2), (80, .iload 5, 2), (82, .aload_n 0, 1), (83, .getfield 196, 3), (86, .if_icmp .ge 90, 3), (89, .aload_n 0, 1), (90, .getfield 68, 3), (93, .iload 5, 2), (95, .iaload, 1), (96, .aload_n 0, 1), (97, .getfield 226, 3), (100, .if_icmp .eq 6, 3), (103, .goto 67, 3), (106, .iconst 0, 1), (107, .istore 6, 2), (109, .iload 6, 2), (111, .aload_n 0, 1), (112, .getfield 196, 3), (115, .if_icmp .ge 55, 3), (118, .iload 6, 2), (120, .iload_n 2, 1), (121, .if_icmp .eq 43, 3), (124, .aload_n 0, 1), (125, .getfield 68, 3), (128, .iload 6, 2), (130, .iaload, 1), (131, .iconst (-1), 1), (132, .if_icmp .ne 32, 3), (135, .aload_n 0, 1), (136, .iload 5, 2), (138, .iload 6, 2), (140, .iload_n 1, 1), (141, .invokevirtual 229, 3), (144, .ifCond .ne 6, 3), (147, .goto 17, 3), (150, .aload_n 0, 1), (151, .getfield 68, 3), (154, .iload 6, 2), (156, .aload_n 0, 1), (157, .getfield 226, 3), (160, .iastore, 1), (161, .iconst 1, 1), (162, .istore 4, 2), (164, .iinc 6 1, 3), (167, .goto (-58), 3), (170, .iinc 5 1, 3), (173, .goto (-93), 3), (176, .goto (-107), 3), (179, .aload_n 0, 1), (180, .dup, 1), (181, .getfield 226, 3), (184, .iconst 1, 1), (185, .iadd, 1), (186, .putfield 226, 3), (189, .iinc 3 1, 3), (192, .goto (-162), 3), (195, .iconst 0, 1), (196, .istore_n 3, 1), (197, .iload_n 3, 1), (198, .aload_n 0, 1), (199, .getfield 226, 3), (202, .if_icmp .ge 87, 3), (205, .aload_n 0, 1), (206, .getfield 74, 3), (209, .iload_n 3, 1), (210, .iconst 0, 1), (211, .iastore, 1), (212, .aload_n 0, 1), (213, .getfield 77, 3), (216, .iload_n 3, 1), (217, .ldc 232, 2), (219, .iastore, 1), (220, .iconst 0, 1), (221, .istore 4, 2), (223, .iload 4, 2), (225, .aload_n 0, 1), (226, .getfield 196, 3), (229, .if_icmp .ge 54, 3), (232, .aload_n 0, 1), (233, .getfield 68, 3), (236, .iload 4, 2), (238, .iaload, 1), (239, .iload_n 3, 1), (240, .if_icmp .eq 6, 3), (243, .goto 34, 3), (246, .aload_n 0, 1), (247, .getfield 74, 3), (250, .iload_n 3, 1), (251, .dup2, 1), (252, .iaload, 1), (253, .iconst 1, 1), (254, .iadd, 1), (255, .iastore, 1), (256, .aload_n 0, 1), (257, .getfield 77, 3), (260, .iload_n 3, 1), (261, .aload_n 0, 1), (262, .getfield 77, 3), (265, .iload_n 3, 1), (266, .iaload, 1), (267, .aload_n 0, 1), (268, .iload 4, 2), (270, .invokevirtual 233, 3), (273, .invokestatic 236, 3), (276, .iastore, 1), (277, .iinc 4 1, 3), (280, .goto (-57), 3), (283, .iinc 3 1, 3), (286, .goto (-89), 3), (289, .return_, 1)] = true := by decide +kernel
theorem E208_0 {d sl : Nat} {p : Nat → Nat} {I : Nat → Nat → Int32} {J : Nat → Nat → Int64} (a1 : Int32) (a2 : Int32)  : den d 208 [.ref 46, .int a1, .int a2] (S sl p I J) = ev d 208 7 [.ref 46, .int a1, .int a2, .int 0, .retAddr 0, .retAddr 0, .retAddr 0] [] (S sl p (up2 I 46 30 0) J) := by
  refine (show den d 208 [.ref 46, .int a1, .int a2] (S sl p I J) = ev d 208 0 [.ref 46, .int a1, .int a2, .retAddr 0, .retAddr 0, .retAddr 0, .retAddr 0] [] (S sl p I J) from rfl).trans ?_
  refine (r_aln (dk D208 0 rfl) rfl).trans ?_
  refine (r_ic (dk D208 1 rfl) ci0).trans ?_
  refine (r_putI (dk D208 2 rfl) ow208 w12_226 ob_46).trans ?_
  refine (r_ic (dk D208 3 rfl) ci0).trans ?_
  refine (r_isn (L' := [.ref 46, .int a1, .int a2, .int 0, .retAddr 0, .retAddr 0, .retAddr 0]) (dk D208 4 rfl) (Nat.le_of_ble_eq_true rfl) rfl).trans ?_
  exact rfl
theorem E208_7 {d sl : Nat} {p : Nat → Nat} {I : Nat → Nat → Int32} {J : Nat → Nat → Int64} (l1 : Int32) (l2 : Int32) (l3 : Int32)  : ev d 208 7 [.ref 46, .int l1, .int l2, .int l3, .retAddr 0, .retAddr 0, .retAddr 0] [] (S sl p I J) = (if l3 < (I 46 2) then ck (ixb 60 l3) (ev d 208 7 [.ref 46, .int l1, .int l2, .int (l3 + 1), .retAddr 0, .retAddr 0, .retAddr 0] [] (S sl p (up2 I 60 (Int32.toNatClampNeg l3) (-1)) J)) else ev d 208 30 [.ref 46, .int l1, .int l2, .int 0, .retAddr 0, .retAddr 0, .retAddr 0] [] (S sl p I J)) := by
  refine (r_iln (dk D208 5 rfl) rfl).trans ?_
  refine (r_aln (dk D208 6 rfl) rfl).trans ?_
  refine (r_getI (dk D208 7 rfl) ow208 q12_196 ob_46).trans ?_
  refine (r_ge (dk D208 8 rfl) rfl).trans (ite2 ?_ ?_)
  · refine (r_aln (dk D208 9 rfl) rfl).trans ?_
    refine (r_getR (dk D208 10 rfl) ow208 q12_68 ob_46 rfl).trans ?_
    refine (r_iln (dk D208 11 rfl) rfl).trans ?_
    refine (r_ic (dk D208 12 rfl) cim1).trans ?_
    refine (r_ist (dk D208 13 rfl) ar_60).trans (ck3 fun g1 => ?_)
    refine (r_inc (L' := [.ref 46, .int l1, .int l2, .int (l3 + 1), .retAddr 0, .retAddr 0, .retAddr 0]) (dk D208 14 rfl) rfl rfl ci1 (Nat.le_of_ble_eq_true rfl) rfl).trans ?_
    refine (r_goto (L' := [.ref 46, .int l1, .int l2, .int (l3 + 1), .retAddr 0, .retAddr 0, .retAddr 0]) (dk D208 15 rfl) rfl nd208_7 rfl).trans ?_
    exact rfl
  · refine (r_ic (dk D208 16 rfl) ci0).trans ?_
    refine (r_isn (L' := [.ref 46, .int l1, .int l2, .int 0, .retAddr 0, .retAddr 0, .retAddr 0]) (dk D208 17 rfl) (Nat.le_of_ble_eq_true rfl) rfl).trans ?_
    exact rfl
theorem E208_30 {d sl : Nat} {p : Nat → Nat} {I : Nat → Nat → Int32} {J : Nat → Nat → Int64} (l1 : Int32) (l2 : Int32) (l3 : Int32)  : ev d 208 30 [.ref 46, .int l1, .int l2, .int l3, .retAddr 0, .retAddr 0, .retAddr 0] [] (S sl p I J) = (if l3 < (I 46 2) then (if l3 = l2 then ev d 208 30 [.ref 46, .int l1, .int l2, .int (l3 + 1), .retAddr 0, .retAddr 0, .retAddr 0] [] (S sl p I J) else ck (ixb 60 l3) ((if (I 60 (Int32.toNatClampNeg l3)) = (-1) then ck (ixb 60 l3) (ev d 208 69 [.ref 46, .int l1, .int l2, .int l3, .int 1, .retAddr 0, .retAddr 0] [] (S sl p (up2 I 60 (Int32.toNatClampNeg l3) (I 46 30)) J)) else ev d 208 30 [.ref 46, .int l1, .int l2, .int (l3 + 1), .retAddr 0, .retAddr 0, .retAddr 0] [] (S sl p I J)))) else ev d 208 197 [.ref 46, .int l1, .int l2, .int 0, .retAddr 0, .retAddr 0, .retAddr 0] [] (S sl p I J)) := by
  refine (r_iln (dk D208 18 rfl) rfl).trans ?_
  refine (r_aln (dk D208 19 rfl) rfl).trans ?_
  refine (r_getI (dk D208 20 rfl) ow208 q12_196 ob_46).trans ?_
  refine (r_ge (dk D208 21 rfl) rfl).trans (ite2 ?_ ?_)
  · refine (r_iln (dk D208 22 rfl) rfl).trans ?_
    refine (r_iln (dk D208 23 rfl) rfl).trans ?_
    refine (r_eq (dk D208 24 rfl) rfl).trans (ite2 ?_ ?_)
    · refine (r_inc (L' := [.ref 46, .int l1, .int l2, .int (l3 + 1), .retAddr 0, .retAddr 0, .retAddr 0]) (dk D208 99 rfl) rfl rfl ci1 (Nat.le_of_ble_eq_true rfl) rfl).trans ?_
      refine (r_goto (L' := [.ref 46, .int l1, .int l2, .int (l3 + 1), .retAddr 0, .retAddr 0, .retAddr 0]) (dk D208 100 rfl) rfl nd208_30 rfl).trans ?_
      exact rfl
    · refine (r_aln (dk D208 25 rfl) rfl).trans ?_
      refine (r_getR (dk D208 26 rfl) ow208 q12_68 ob_46 rfl).trans ?_
      refine (r_iln (dk D208 27 rfl) rfl).trans ?_
      refine (r_ild (dk D208 28 rfl) ar_60).trans (ck3 fun g1 => ?_)
      refine (r_ic (dk D208 29 rfl) cim1).trans ?_
      refine (r_eq (dk D208 30 rfl) rfl).trans (ite2 ?_ ?_)
      · refine (r_aln (dk D208 32 rfl) rfl).trans ?_
        refine (r_getR (dk D208 33 rfl) ow208 q12_68 ob_46 rfl).trans ?_
        refine (r_iln (dk D208 34 rfl) rfl).trans ?_
        refine (r_aln (dk D208 35 rfl) rfl).trans ?_
        refine (r_getI (dk D208 36 rfl) ow208 q12_226 ob_46).trans ?_
        refine (r_ist (dk D208 37 rfl) ar_60).trans (ck3 fun g2 => ?_)
        refine (r_ic (dk D208 38 rfl) ci1).trans ?_
        refine (r_is (L' := [.ref 46, .int l1, .int l2, .int l3, .int 1, .retAddr 0, .retAddr 0]) (dk D208 39 rfl) (Nat.le_of_ble_eq_true rfl) rfl).trans ?_
        exact rfl
      · refine (r_goto (L' := [.ref 46, .int l1, .int l2, .int l3, .retAddr 0, .retAddr 0, .retAddr 0]) (dk D208 31 rfl) rfl nd208_189 rfl).trans ?_
        refine (r_inc (L' := [.ref 46, .int l1, .int l2, .int (l3 + 1), .retAddr 0, .retAddr 0, .retAddr 0]) (dk D208 99 rfl) rfl rfl ci1 (Nat.le_of_ble_eq_true rfl) rfl).trans ?_
        refine (r_goto (L' := [.ref 46, .int l1, .int l2, .int (l3 + 1), .retAddr 0, .retAddr 0, .retAddr 0]) (dk D208 100 rfl) rfl nd208_30 rfl).trans ?_
        exact rfl
  · refine (r_ic (dk D208 101 rfl) ci0).trans ?_
    refine (r_isn (L' := [.ref 46, .int l1, .int l2, .int 0, .retAddr 0, .retAddr 0, .retAddr 0]) (dk D208 102 rfl) (Nat.le_of_ble_eq_true rfl) rfl).trans ?_
    exact rfl
theorem E208_69 {d sl : Nat} {p : Nat → Nat} {I : Nat → Nat → Int32} {J : Nat → Nat → Int64} (l1 : Int32) (l2 : Int32) (l3 : Int32) (l4 : Int32)  : ev d 208 69 [.ref 46, .int l1, .int l2, .int l3, .int l4, .retAddr 0, .retAddr 0] [] (S sl p I J) = (if l4 = 0 then ev d 208 30 [.ref 46, .int l1, .int l2, .int (l3 + 1), .retAddr 0, .retAddr 0, .retAddr 0] [] (S sl p (up2 I 46 30 ((I 46 30) + 1)) J) else ev d 208 80 [.ref 46, .int l1, .int l2, .int l3, .int 0, .int 0, .retAddr 0] [] (S sl p I J)) := by
  refine (r_il (dk D208 40 rfl) rfl).trans ?_
  refine (r_eq0 (dk D208 41 rfl) rfl).trans (ite2 ?_ ?_)
  · refine (r_aln (dk D208 93 rfl) rfl).trans ?_
    refine (r_dup (dk D208 94 rfl) rfl).trans ?_
    refine (r_getI (dk D208 95 rfl) ow208 q12_226 ob_46).trans ?_
    refine (r_ic (dk D208 96 rfl) ci1).trans ?_
    refine (r_iadd (dk D208 97 rfl)).trans ?_
    refine (r_putI (dk D208 98 rfl) ow208 w12_226 ob_46).trans ?_
    refine (r_inc (L' := [.ref 46, .int l1, .int l2, .int (l3 + 1), .int l4, .retAddr 0, .retAddr 0]) (dk D208 99 rfl) rfl rfl ci1 (Nat.le_of_ble_eq_true rfl) rfl).trans ?_
    refine (r_goto (L' := [.ref 46, .int l1, .int l2, .int (l3 + 1), .retAddr 0, .retAddr 0, .retAddr 0]) (dk D208 100 rfl) rfl nd208_30 rfl).trans ?_
    exact rfl
  · refine (r_ic (dk D208 42 rfl) ci0).trans ?_
    refine (r_is (L' := [.ref 46, .int l1, .int l2, .int l3, .int 0, .retAddr 0, .retAddr 0]) (dk D208 43 rfl) (Nat.le_of_ble_eq_true rfl) rfl).trans ?_
    refine (r_ic (dk D208 44 rfl) ci0).trans ?_
    refine (r_is (L' := [.ref 46, .int l1, .int l2, .int l3, .int 0, .int 0, .retAddr 0]) (dk D208 45 rfl) (Nat.le_of_ble_eq_true rfl) rfl).trans ?_
    exact rfl
theorem E208_80 {d sl : Nat} {p : Nat → Nat} {I : Nat → Nat → Int32} {J : Nat → Nat → Int64} (l1 : Int32) (l2 : Int32) (l3 : Int32) (l4 : Int32) (l5 : Int32)  : ev d 208 80 [.ref 46, .int l1, .int l2, .int l3, .int l4, .int l5, .retAddr 0] [] (S sl p I J) = (if l5 < (I 46 2) then ck (ixb 60 l5) ((if (I 60 (Int32.toNatClampNeg l5)) = (I 46 30) then ev d 208 109 [.ref 46, .int l1, .int l2, .int l3, .int l4, .int l5, .int 0] [] (S sl p I J) else ev d 208 80 [.ref 46, .int l1, .int l2, .int l3, .int l4, .int (l5 + 1), .retAddr 0] [] (S sl p I J))) else ev d 208 69 [.ref 46, .int l1, .int l2, .int l3, .int l4, .retAddr 0, .retAddr 0] [] (S sl p I J)) := by
  refine (r_il (dk D208 46 rfl) rfl).trans ?_
  refine (r_aln (dk D208 47 rfl) rfl).trans ?_
  refine (r_getI (dk D208 48 rfl) ow208 q12_196 ob_46).trans ?_
  refine (r_ge (dk D208 49 rfl) rfl).trans (ite2 ?_ ?_)
  · refine (r_aln (dk D208 50 rfl) rfl).trans ?_
    refine (r_getR (dk D208 51 rfl) ow208 q12_68 ob_46 rfl).trans ?_
    refine (r_il (dk D208 52 rfl) rfl).trans ?_
    refine (r_ild (dk D208 53 rfl) ar_60).trans (ck3 fun g1 => ?_)
    refine (r_aln (dk D208 54 rfl) rfl).trans ?_
    refine (r_getI (dk D208 55 rfl) ow208 q12_226 ob_46).trans ?_
    refine (r_eq (dk D208 56 rfl) rfl).trans (ite2 ?_ ?_)
    · refine (r_ic (dk D208 58 rfl) ci0).trans ?_
      refine (r_is (L' := [.ref 46, .int l1, .int l2, .int l3, .int l4, .int l5, .int 0]) (dk D208 59 rfl) (Nat.le_of_ble_eq_true rfl) rfl).trans ?_
      exact rfl
    · refine (r_goto (L' := [.ref 46, .int l1, .int l2, .int l3, .int l4, .int l5, .retAddr 0]) (dk D208 57 rfl) rfl nd208_170 rfl).trans ?_
      refine (r_inc (L' := [.ref 46, .int l1, .int l2, .int l3, .int l4, .int (l5 + 1), .retAddr 0]) (dk D208 90 rfl) rfl rfl ci1 (Nat.le_of_ble_eq_true rfl) rfl).trans ?_
      refine (r_goto (L' := [.ref 46, .int l1, .int l2, .int l3, .int l4, .int (l5 + 1), .retAddr 0]) (dk D208 91 rfl) rfl nd208_80 rfl).trans ?_
      exact rfl
  · refine (r_goto (L' := [.ref 46, .int l1, .int l2, .int l3, .int l4, .retAddr 0, .retAddr 0]) (dk D208 92 rfl) rfl nd208_69 rfl).trans ?_
    exact rfl
theorem E208_109 {d sl : Nat} {p : Nat → Nat} {I : Nat → Nat → Int32} {J : Nat → Nat → Int64} (l1 : Int32) (l2 : Int32) (l3 : Int32) (l4 : Int32) (l5 : Int32) (l6 : Int32)  : ev (d + 1) 208 109 [.ref 46, .int l1, .int l2, .int l3, .int l4, .int l5, .int l6] [] (S sl p I J) = (if l6 < (I 46 2) then (if l6 = l2 then ev (d + 1) 208 109 [.ref 46, .int l1, .int l2, .int l3, .int l4, .int l5, .int (l6 + 1)] [] (S sl p I J) else ck (ixb 60 l6) ((if (I 60 (Int32.toNatClampNeg l6)) = (-1) then evK (d + 1) 208 144 [.ref 46, .int l1, .int l2, .int l3, .int l4, .int l5, .int l6] [] (den d 195 [.ref 46, .int l5, .int l6, .int l1] (S sl p I J)) else ev (d + 1) 208 109 [.ref 46, .int l1, .int l2, .int l3, .int l4, .int l5, .int (l6 + 1)] [] (S sl p I J)))) else ev (d + 1) 208 80 [.ref 46, .int l1, .int l2, .int l3, .int l4, .int (l5 + 1), .retAddr 0] [] (S sl p I J)) := by
  refine (r_il (dk D208 60 rfl) rfl).trans ?_
  refine (r_aln (dk D208 61 rfl) rfl).trans ?_
  refine (r_getI (dk D208 62 rfl) ow208 q12_196 ob_46).trans ?_
  refine (r_ge (dk D208 63 rfl) rfl).trans (ite2 ?_ ?_)
  · refine (r_il (dk D208 64 rfl) rfl).trans ?_
    refine (r_iln (dk D208 65 rfl) rfl).trans ?_
    refine (r_eq (dk D208 66 rfl) rfl).trans (ite2 ?_ ?_)
    · refine (r_inc (L' := [.ref 46, .int l1, .int l2, .int l3, .int l4, .int l5, .int (l6 + 1)]) (dk D208 88 rfl) rfl rfl ci1 (Nat.le_of_ble_eq_true rfl) rfl).trans ?_
      refine (r_goto (L' := [.ref 46, .int l1, .int l2, .int l3, .int l4, .int l5, .int (l6 + 1)]) (dk D208 89 rfl) rfl nd208_109 rfl).trans ?_
      exact rfl
    · refine (r_aln (dk D208 67 rfl) rfl).trans ?_
      refine (r_getR (dk D208 68 rfl) ow208 q12_68 ob_46 rfl).trans ?_
      refine (r_il (dk D208 69 rfl) rfl).trans ?_
      refine (r_ild (dk D208 70 rfl) ar_60).trans (ck3 fun g1 => ?_)
      refine (r_ic (dk D208 71 rfl) cim1).trans ?_
      refine (r_ne (dk D208 72 rfl) rfl).trans (ite2 ?_ ?_)
      · refine (r_aln (dk D208 73 rfl) rfl).trans ?_
        refine (r_il (dk D208 74 rfl) rfl).trans ?_
        refine (r_il (dk D208 75 rfl) rfl).trans ?_
        refine (r_iln (dk D208 76 rfl) rfl).trans ?_
        exact r_cv (dk D208 77 rfl) ow208 c12_229 mf195 (Nat.le_of_ble_eq_true rfl) rfl rfl (Nat.le_of_ble_eq_true rfl) (Nat.le_of_ble_eq_true rfl) ob_46
      · refine (r_inc (L' := [.ref 46, .int l1, .int l2, .int l3, .int l4, .int l5, .int (l6 + 1)]) (dk D208 88 rfl) rfl rfl ci1 (Nat.le_of_ble_eq_true rfl) rfl).trans ?_
        refine (r_goto (L' := [.ref 46, .int l1, .int l2, .int l3, .int l4, .int l5, .int (l6 + 1)]) (dk D208 89 rfl) rfl nd208_109 rfl).trans ?_
        exact rfl
  · refine (r_inc (L' := [.ref 46, .int l1, .int l2, .int l3, .int l4, .int (l5 + 1), .int l6]) (dk D208 90 rfl) rfl rfl ci1 (Nat.le_of_ble_eq_true rfl) rfl).trans ?_
    refine (r_goto (L' := [.ref 46, .int l1, .int l2, .int l3, .int l4, .int (l5 + 1), .retAddr 0]) (dk D208 91 rfl) rfl nd208_80 rfl).trans ?_
    exact rfl
theorem E208_144 {d sl : Nat} {p : Nat → Nat} {I : Nat → Nat → Int32} {J : Nat → Nat → Int64} (l1 : Int32) (l2 : Int32) (l3 : Int32) (l4 : Int32) (l5 : Int32) (l6 : Int32) (s0 : Int32)  : ev d 208 144 [.ref 46, .int l1, .int l2, .int l3, .int l4, .int l5, .int l6] [.int s0] (S sl p I J) = (if s0 = 0 then ev d 208 109 [.ref 46, .int l1, .int l2, .int l3, .int l4, .int l5, .int (l6 + 1)] [] (S sl p I J) else ck (ixb 60 l6) (ev d 208 109 [.ref 46, .int l1, .int l2, .int l3, .int 1, .int l5, .int (l6 + 1)] [] (S sl p (up2 I 60 (Int32.toNatClampNeg l6) (I 46 30)) J))) := by
  refine (r_ne0 (dk D208 78 rfl) rfl).trans (ite2 ?_ ?_)
  · refine (r_goto (L' := [.ref 46, .int l1, .int l2, .int l3, .int l4, .int l5, .int l6]) (dk D208 79 rfl) rfl nd208_164 rfl).trans ?_
    refine (r_inc (L' := [.ref 46, .int l1, .int l2, .int l3, .int l4, .int l5, .int (l6 + 1)]) (dk D208 88 rfl) rfl rfl ci1 (Nat.le_of_ble_eq_true rfl) rfl).trans ?_
    refine (r_goto (L' := [.ref 46, .int l1, .int l2, .int l3, .int l4, .int l5, .int (l6 + 1)]) (dk D208 89 rfl) rfl nd208_109 rfl).trans ?_
    exact rfl
  · refine (r_aln (dk D208 80 rfl) rfl).trans ?_
    refine (r_getR (dk D208 81 rfl) ow208 q12_68 ob_46 rfl).trans ?_
    refine (r_il (dk D208 82 rfl) rfl).trans ?_
    refine (r_aln (dk D208 83 rfl) rfl).trans ?_
    refine (r_getI (dk D208 84 rfl) ow208 q12_226 ob_46).trans ?_
    refine (r_ist (dk D208 85 rfl) ar_60).trans (ck3 fun g1 => ?_)
    refine (r_ic (dk D208 86 rfl) ci1).trans ?_
    refine (r_is (L' := [.ref 46, .int l1, .int l2, .int l3, .int 1, .int l5, .int l6]) (dk D208 87 rfl) (Nat.le_of_ble_eq_true rfl) rfl).trans ?_
    refine (r_inc (L' := [.ref 46, .int l1, .int l2, .int l3, .int 1, .int l5, .int (l6 + 1)]) (dk D208 88 rfl) rfl rfl ci1 (Nat.le_of_ble_eq_true rfl) rfl).trans ?_
    refine (r_goto (L' := [.ref 46, .int l1, .int l2, .int l3, .int 1, .int l5, .int (l6 + 1)]) (dk D208 89 rfl) rfl nd208_109 rfl).trans ?_
    exact rfl
theorem E208_197 {d sl : Nat} {p : Nat → Nat} {I : Nat → Nat → Int32} {J : Nat → Nat → Int64} (l1 : Int32) (l2 : Int32) (l3 : Int32)  : ev d 208 197 [.ref 46, .int l1, .int l2, .int l3, .retAddr 0, .retAddr 0, .retAddr 0] [] (S sl p I J) = (if l3 < (I 46 30) then ck (ixb 60 l3) (ck (ixb 60 l3) (ev d 208 223 [.ref 46, .int l1, .int l2, .int l3, .int 0, .retAddr 0, .retAddr 0] [] (S sl p (up2 (up2 I 62 (Int32.toNatClampNeg l3) 0) 63 (Int32.toNatClampNeg l3) 1000000) J))) else some (none, (S sl p I J))) := by
  refine (r_iln (dk D208 103 rfl) rfl).trans ?_
  refine (r_aln (dk D208 104 rfl) rfl).trans ?_
  refine (r_getI (dk D208 105 rfl) ow208 q12_226 ob_46).trans ?_
  refine (r_ge (dk D208 106 rfl) rfl).trans (ite2 ?_ ?_)
  · refine (r_aln (dk D208 107 rfl) rfl).trans ?_
    refine (r_getR (dk D208 108 rfl) ow208 q12_74 ob_46 rfl).trans ?_
    refine (r_iln (dk D208 109 rfl) rfl).trans ?_
    refine (r_ic (dk D208 110 rfl) ci0).trans ?_
    refine (r_ist (dk D208 111 rfl) ar_62).trans (ck3 fun g1 => ?_)
    refine (r_aln (dk D208 112 rfl) rfl).trans ?_
    refine (r_getR (dk D208 113 rfl) ow208 q12_77 ob_46 rfl).trans ?_
    refine (r_iln (dk D208 114 rfl) rfl).trans ?_
    refine (r_ldc (dk D208 115 rfl) ow208 k12_232).trans ?_
    refine (r_ist (dk D208 116 rfl) ar_63).trans (ck3 fun g2 => ?_)
    refine (r_ic (dk D208 117 rfl) ci0).trans ?_
    refine (r_is (L' := [.ref 46, .int l1, .int l2, .int l3, .int 0, .retAddr 0, .retAddr 0]) (dk D208 118 rfl) (Nat.le_of_ble_eq_true rfl) rfl).trans ?_
    exact rfl
  · exact r_rev (dk D208 154 rfl) rt208
theorem E208_223 {d sl : Nat} {p : Nat → Nat} {I : Nat → Nat → Int32} {J : Nat → Nat → Int64} (l1 : Int32) (l2 : Int32) (l3 : Int32) (l4 : Int32)  : ev (d + 1) 208 223 [.ref 46, .int l1, .int l2, .int l3, .int l4, .retAddr 0, .retAddr 0] [] (S sl p I J) = (if l4 < (I 46 2) then ck (ixb 60 l4) ((if (I 60 (Int32.toNatClampNeg l4)) = l3 then ck (ixb 60 l3) (ck (ixb 60 l3) (ck (ixb 60 l3) (evK (d + 1) 208 273 [.ref 46, .int l1, .int l2, .int l3, .int l4, .retAddr 0, .retAddr 0] [.int ((up2 I 62 (Int32.toNatClampNeg l3) ((I 62 (Int32.toNatClampNeg l3)) + 1)) 63 (Int32.toNatClampNeg l3)), .int l3, .ref 63] (den d 207 [.ref 46, .int l4] (S sl p (up2 I 62 (Int32.toNatClampNeg l3) ((I 62 (Int32.toNatClampNeg l3)) + 1)) J))))) else ev (d + 1) 208 223 [.ref 46, .int l1, .int l2, .int l3, .int (l4 + 1), .retAddr 0, .retAddr 0] [] (S sl p I J))) else ev (d + 1) 208 197 [.ref 46, .int l1, .int l2, .int (l3 + 1), .retAddr 0, .retAddr 0, .retAddr 0] [] (S sl p I J)) := by
  refine (r_il (dk D208 119 rfl) rfl).trans ?_
  refine (r_aln (dk D208 120 rfl) rfl).trans ?_
  refine (r_getI (dk D208 121 rfl) ow208 q12_196 ob_46).trans ?_
  refine (r_ge (dk D208 122 rfl) rfl).trans (ite2 ?_ ?_)
  · refine (r_aln (dk D208 123 rfl) rfl).trans ?_
    refine (r_getR (dk D208 124 rfl) ow208 q12_68 ob_46 rfl).trans ?_
    refine (r_il (dk D208 125 rfl) rfl).trans ?_
    refine (r_ild (dk D208 126 rfl) ar_60).trans (ck3 fun g1 => ?_)
    refine (r_iln (dk D208 127 rfl) rfl).trans ?_
    refine (r_eq (dk D208 128 rfl) rfl).trans (ite2 ?_ ?_)
    · refine (r_aln (dk D208 130 rfl) rfl).trans ?_
      refine (r_getR (dk D208 131 rfl) ow208 q12_74 ob_46 rfl).trans ?_
      refine (r_iln (dk D208 132 rfl) rfl).trans ?_
      refine (r_dup2 (dk D208 133 rfl) rfl rfl).trans ?_
      refine (r_ild (dk D208 134 rfl) ar_62).trans (ck3 fun g2 => ?_)
      refine (r_ic (dk D208 135 rfl) ci1).trans ?_
      refine (r_iadd (dk D208 136 rfl)).trans ?_
      refine (r_ist (dk D208 137 rfl) ar_62).trans (ck3 fun g3 => ?_)
      refine (r_aln (dk D208 138 rfl) rfl).trans ?_
      refine (r_getR (dk D208 139 rfl) ow208 q12_77 ob_46 rfl).trans ?_
      refine (r_iln (dk D208 140 rfl) rfl).trans ?_
      refine (r_aln (dk D208 141 rfl) rfl).trans ?_
      refine (r_getR (dk D208 142 rfl) ow208 q12_77 ob_46 rfl).trans ?_
      refine (r_iln (dk D208 143 rfl) rfl).trans ?_
      refine (r_ild (dk D208 144 rfl) ar_63).trans (ck3 fun g4 => ?_)
      refine (r_aln (dk D208 145 rfl) rfl).trans ?_
      refine (r_il (dk D208 146 rfl) rfl).trans ?_
      exact r_cv (dk D208 147 rfl) ow208 c12_233 mf207 (Nat.le_of_ble_eq_true rfl) rfl rfl (Nat.le_of_ble_eq_true rfl) (Nat.le_of_ble_eq_true rfl) ob_46
    · refine (r_goto (L' := [.ref 46, .int l1, .int l2, .int l3, .int l4, .retAddr 0, .retAddr 0]) (dk D208 129 rfl) rfl nd208_277 rfl).trans ?_
      refine (r_inc (L' := [.ref 46, .int l1, .int l2, .int l3, .int (l4 + 1), .retAddr 0, .retAddr 0]) (dk D208 150 rfl) rfl rfl ci1 (Nat.le_of_ble_eq_true rfl) rfl).trans ?_
      refine (r_goto (L' := [.ref 46, .int l1, .int l2, .int l3, .int (l4 + 1), .retAddr 0, .retAddr 0]) (dk D208 151 rfl) rfl nd208_223 rfl).trans ?_
      exact rfl
  · refine (r_inc (L' := [.ref 46, .int l1, .int l2, .int (l3 + 1), .int l4, .retAddr 0, .retAddr 0]) (dk D208 152 rfl) rfl rfl ci1 (Nat.le_of_ble_eq_true rfl) rfl).trans ?_
    refine (r_goto (L' := [.ref 46, .int l1, .int l2, .int (l3 + 1), .retAddr 0, .retAddr 0, .retAddr 0]) (dk D208 153 rfl) rfl nd208_197 rfl).trans ?_
    exact rfl
theorem E208_273 {d sl : Nat} {p : Nat → Nat} {I : Nat → Nat → Int32} {J : Nat → Nat → Int64} (l1 : Int32) (l2 : Int32) (l3 : Int32) (l4 : Int32) (s0 : Int32) (s1 : Int32) (s2 : Int32)  : ev (d + 1) 208 273 [.ref 46, .int l1, .int l2, .int l3, .int l4, .retAddr 0, .retAddr 0] [.int s0, .int s1, .int s2, .ref 63] (S sl p I J) = ck (ixb 60 s2) (ev (d + 1) 208 223 [.ref 46, .int l1, .int l2, .int l3, .int (l4 + 1), .retAddr 0, .retAddr 0] [] (S sl p (up2 I 63 (Int32.toNatClampNeg s2) (if s0 < s1 then s0 else s1)) J)) := by
  refine (r_prm (st' := [.int (if s0 < s1 then s0 else s1), .int s2, .ref 63]) (dk D208 148 rfl) ow208 p12_236 (Nat.le_of_ble_eq_true rfl) rfl).trans ?_
  refine (r_ist (dk D208 149 rfl) ar_63).trans (ck3 fun g1 => ?_)
  refine (r_inc (L' := [.ref 46, .int l1, .int l2, .int l3, .int (l4 + 1), .retAddr 0, .retAddr 0]) (dk D208 150 rfl) rfl rfl ci1 (Nat.le_of_ble_eq_true rfl) rfl).trans ?_
  refine (r_goto (L' := [.ref 46, .int l1, .int l2, .int l3, .int (l4 + 1), .retAddr 0, .retAddr 0]) (dk D208 151 rfl) rfl nd208_223 rfl).trans ?_
  exact rfl
set_option maxRecDepth 20000 in
theorem D209 : dOK 209 [(0, .iconst 0, 1), (1, .istore_n 1, 1), (2, .iconst 0, 1), (3, .istore_n 2, 1), (4, .iload_n 2, 1), (5, .aload_n 0, 1), (6, .getfield 226, 3), (9, .if_icmp .ge 30, 3), (12, .iload_n 1, 1), (13, .aload_n 0, 1), (14, .getfield 74, 3), (17, .iload_n 2, 1), (18, .iaload, 1), (19, .aload_n 0, 1), (20, .getfield 13, 3), (23, .if_icmp .lt 7, 3), (26, .iconst 1, 1), (27, .goto 4, 3), (30, .iconst 0, 1), (31, .iadd, 1), (32, .istore_n 1, 1), (33, .iinc 2 1, 3), (36, .goto (-32), 3), (39, .iload_n 1, 1), (40, .ireturn, 1)] = true := by decide +kernel
theorem E209_0 {d sl : Nat} {p : Nat → Nat} {I : Nat → Nat → Int32} {J : Nat → Nat → Int64}   : den d 209 [.ref 46] (S sl p I J) = ev d 209 4 [.ref 46, .int 0, .int 0] [] (S sl p I J) := by
  refine (show den d 209 [.ref 46] (S sl p I J) = ev d 209 0 [.ref 46, .retAddr 0, .retAddr 0] [] (S sl p I J) from rfl).trans ?_
  refine (r_ic (dk D209 0 rfl) ci0).trans ?_
  refine (r_isn (L' := [.ref 46, .int 0, .retAddr 0]) (dk D209 1 rfl) (Nat.le_of_ble_eq_true rfl) rfl).trans ?_
  refine (r_ic (dk D209 2 rfl) ci0).trans ?_
  refine (r_isn (L' := [.ref 46, .int 0, .int 0]) (dk D209 3 rfl) (Nat.le_of_ble_eq_true rfl) rfl).trans ?_
  exact rfl
theorem E209_4 {d sl : Nat} {p : Nat → Nat} {I : Nat → Nat → Int32} {J : Nat → Nat → Int64} (l1 : Int32) (l2 : Int32)  : ev d 209 4 [.ref 46, .int l1, .int l2] [] (S sl p I J) = (if l2 < (I 46 30) then ck (ixb 60 l2) ((if (I 62 (Int32.toNatClampNeg l2)) < (I 46 4) then ev d 209 4 [.ref 46, .int (l1 + 0), .int (l2 + 1)] [] (S sl p I J) else ev d 209 4 [.ref 46, .int (l1 + 1), .int (l2 + 1)] [] (S sl p I J))) else some (some (.int l1), (S sl p I J))) := by
  refine (r_iln (dk D209 4 rfl) rfl).trans ?_
  refine (r_aln (dk D209 5 rfl) rfl).trans ?_
  refine (r_getI (dk D209 6 rfl) ow209 q12_226 ob_46).trans ?_
  refine (r_ge (dk D209 7 rfl) rfl).trans (ite2 ?_ ?_)
  · refine (r_iln (dk D209 8 rfl) rfl).trans ?_
    refine (r_aln (dk D209 9 rfl) rfl).trans ?_
    refine (r_getR (dk D209 10 rfl) ow209 q12_74 ob_46 rfl).trans ?_
    refine (r_iln (dk D209 11 rfl) rfl).trans ?_
    refine (r_ild (dk D209 12 rfl) ar_62).trans (ck3 fun g1 => ?_)
    refine (r_aln (dk D209 13 rfl) rfl).trans ?_
    refine (r_getI (dk D209 14 rfl) ow209 q12_13 ob_46).trans ?_
    refine (r_lt (dk D209 15 rfl) rfl).trans (ite2 ?_ ?_)
    · refine (r_ic (dk D209 18 rfl) ci0).trans ?_
      refine (r_iadd (dk D209 19 rfl)).trans ?_
      refine (r_isn (L' := [.ref 46, .int (l1 + 0), .int l2]) (dk D209 20 rfl) (Nat.le_of_ble_eq_true rfl) rfl).trans ?_
      refine (r_inc (L' := [.ref 46, .int (l1 + 0), .int (l2 + 1)]) (dk D209 21 rfl) rfl rfl ci1 (Nat.le_of_ble_eq_true rfl) rfl).trans ?_
      refine (r_goto (L' := [.ref 46, .int (l1 + 0), .int (l2 + 1)]) (dk D209 22 rfl) rfl nd209_4 rfl).trans ?_
      exact rfl
    · refine (r_ic (dk D209 16 rfl) ci1).trans ?_
      refine (r_goto (L' := [.ref 46, .int l1, .int l2]) (dk D209 17 rfl) rfl nd209_31 rfl).trans ?_
      refine (r_iadd (dk D209 19 rfl)).trans ?_
      refine (r_isn (L' := [.ref 46, .int (l1 + 1), .int l2]) (dk D209 20 rfl) (Nat.le_of_ble_eq_true rfl) rfl).trans ?_
      refine (r_inc (L' := [.ref 46, .int (l1 + 1), .int (l2 + 1)]) (dk D209 21 rfl) rfl rfl ci1 (Nat.le_of_ble_eq_true rfl) rfl).trans ?_
      refine (r_goto (L' := [.ref 46, .int (l1 + 1), .int (l2 + 1)]) (dk D209 22 rfl) rfl nd209_4 rfl).trans ?_
      exact rfl
  · refine (r_iln (dk D209 23 rfl) rfl).trans ?_
    exact r_ret (dk D209 24 rfl) rt209
set_option maxRecDepth 20000 in
theorem D210 : dOK 210 [(0, .aload_n 0, 1), (1, .aload_n 0, 1), (2, .getfield 7, 3), (5, .iconst (-1), 1), (6, .invokevirtual 238, 3), (9, .aload_n 0, 1), (10, .aload_n 0, 1), (11, .invokevirtual 241, 3), (14, .putfield 244, 3), (17, .iconst 0, 1), (18, .istore_n 1, 1), (19, .iload_n 1, 1), (20, .aload_n 0, 1), (21, .getfield 196, 3), (24, .if_icmp .ge 141, 3), (27, .aload_n 0, 1), (28, .getfield 68, 3), (31, .iload_n 1, 1), (32, .iaload, 1), (33, .istore_n 2, 1), (34, .aload_n 0, 1), (35, .getfield 71, 3), (38, .iload_n 1, 1), (39, .aload_n 0, 1), (40, .getfield 74, 3), (43, .iload_n 2, 1), (44, .iaload, 1), (45, .aload_n 0, 1), (46, .getfield 13, 3), (49, .if_icmp .ge 7, 3), (52, .iconst (-1), 1), (53, .goto 4, 3), (56, .iconst 0, 1), (57, .iastore, 1), (58, .aload_n 0, 1), (59, .getfield 71, 3), (62, .iload_n 1, 1), (63, .iaload, 1), (64, .iconst (-1), 1), (65, .if_icmp .ne 6, 3), (68, .goto 91, 3), (71, .iconst 0, 1), (72, .istore_n 3, 1), (73, .iload_n 3, 1), (74, .aload_n 0, 1), (75, .getfield 226, 3), (78, .if_icmp .ge 81, 3), (81, .aload_n 0, 1), (82, .getfield 71, 3), (85, .iload_n 1, 1), (86, .dup2, 1), (87, .iaload, 1), (88, .aload_n 0, 1), (89, .getfield 74, 3), (92, .iload_n 3, 1), (93, .iaload, 1), (94, .aload_n 0, 1), (95, .getfield 13, 3), (98, .if_icmp .lt 52, 3), (101, .aload_n 0, 1), (102, .getfield 74, 3), (105, .iload_n 3, 1), (106, .iaload, 1), (107, .aload_n 0, 1), (108, .getfield 74, 3), (111, .iload_n 2, 1), (112, .iaload, 1), (113, .if_icmp .gt 33, 3), (116, .aload_n 0, 1), (117, .getfield 74, 3), (120, .iload_n 3, 1), (121, .iaload, 1), (122, .aload_n 0, 1), (123, .getfield 74, 3), (126, .iload_n 2, 1), (127, .iaload, 1), (128, .if_icmp .ne 22, 3), (131, .aload_n 0, 1), (132, .getfield 77, 3), (135, .iload_n 3, 1), (136, .iaload, 1), (137, .aload_n 0, 1), (138, .getfield 77, 3), (141, .iload_n 2, 1), (142, .iaload, 1), (143, .if_icmp .ge 7, 3), (146, .iconst 1, 1), (147, .goto 4, 3), (150, .iconst 0, 1), (151, .iadd, 1), (152, .iastore, 1), (153, .iinc 3 1, 3), (156, .goto (-83), 3), (159, .iinc 1 1, 3), (162, .goto (-143), 3), (165, .return_, 1)] = true := by decide +kernel
theorem E210_0 {d sl : Nat} {p : Nat → Nat} {I : Nat → Nat → Int32} {J : Nat → Nat → Int64}   : den (d + 1) 210 [.ref 46] (S sl p I J) = evK (d + 1) 210 9 [.ref 46, .retAddr 0, .retAddr 0, .retAddr 0] [] (den d 208 [.ref 46, .int (I 46 3), .int (-1)] (S sl p I J)) := by
  refine (show den (d + 1) 210 [.ref 46] (S sl p I J) = ev (d + 1) 210 0 [.ref 46, .retAddr 0, .retAddr 0, .retAddr 0] [] (S sl p I J) from rfl).trans ?_
  refine (r_aln (dk D210 0 rfl) rfl).trans ?_
  refine (r_aln (dk D210 1 rfl) rfl).trans ?_
  refine (r_getI (dk D210 2 rfl) ow210 q12_7 ob_46).trans ?_
  refine (r_ic (dk D210 3 rfl) cim1).trans ?_
  exact r_cv (dk D210 4 rfl) ow210 c12_238 mf208 (Nat.le_of_ble_eq_true rfl) rfl rfl (Nat.le_of_ble_eq_true rfl) (Nat.le_of_ble_eq_true rfl) ob_46
theorem E210_9 {d sl : Nat} {p : Nat → Nat} {I : Nat → Nat → Int32} {J : Nat → Nat → Int64}   : ev (d + 1) 210 9 [.ref 46, .retAddr 0, .retAddr 0, .retAddr 0] [] (S sl p I J) = evK (d + 1) 210 14 [.ref 46, .retAddr 0, .retAddr 0, .retAddr 0] [.ref 46] (den d 209 [.ref 46] (S sl p I J)) := by
  refine (r_aln (dk D210 5 rfl) rfl).trans ?_
  refine (r_aln (dk D210 6 rfl) rfl).trans ?_
  exact r_cv (dk D210 7 rfl) ow210 c12_241 mf209 (Nat.le_of_ble_eq_true rfl) rfl rfl (Nat.le_of_ble_eq_true rfl) (Nat.le_of_ble_eq_true rfl) ob_46
theorem E210_14 {d sl : Nat} {p : Nat → Nat} {I : Nat → Nat → Int32} {J : Nat → Nat → Int64} (s0 : Int32)  : ev d 210 14 [.ref 46, .retAddr 0, .retAddr 0, .retAddr 0] [.int s0, .ref 46] (S sl p I J) = ev d 210 19 [.ref 46, .int 0, .retAddr 0, .retAddr 0] [] (S sl p (up2 I 46 31 s0) J) := by
  refine (r_putI (dk D210 8 rfl) ow210 w12_244 ob_46).trans ?_
  refine (r_ic (dk D210 9 rfl) ci0).trans ?_
  refine (r_isn (L' := [.ref 46, .int 0, .retAddr 0, .retAddr 0]) (dk D210 10 rfl) (Nat.le_of_ble_eq_true rfl) rfl).trans ?_
  exact rfl
theorem E210_19 {d sl : Nat} {p : Nat → Nat} {I : Nat → Nat → Int32} {J : Nat → Nat → Int64} (l1 : Int32)  : ev d 210 19 [.ref 46, .int l1, .retAddr 0, .retAddr 0] [] (S sl p I J) = (if l1 < (I 46 2) then ck (ixb 60 l1) (ck (ixb 60 (I 60 (Int32.toNatClampNeg l1))) ((if (I 62 (Int32.toNatClampNeg (I 60 (Int32.toNatClampNeg l1)))) < (I 46 4) then ev d 210 57 [.ref 46, .int l1, .int (I 60 (Int32.toNatClampNeg l1)), .retAddr 0] [.int (-1), .int l1, .ref 61] (S sl p I J) else ev d 210 57 [.ref 46, .int l1, .int (I 60 (Int32.toNatClampNeg l1)), .retAddr 0] [.int 0, .int l1, .ref 61] (S sl p I J)))) else some (none, (S sl p I J))) := by
  refine (r_iln (dk D210 11 rfl) rfl).trans ?_
  refine (r_aln (dk D210 12 rfl) rfl).trans ?_
  refine (r_getI (dk D210 13 rfl) ow210 q12_196 ob_46).trans ?_
  refine (r_ge (dk D210 14 rfl) rfl).trans (ite2 ?_ ?_)
  · refine (r_aln (dk D210 15 rfl) rfl).trans ?_
    refine (r_getR (dk D210 16 rfl) ow210 q12_68 ob_46 rfl).trans ?_
    refine (r_iln (dk D210 17 rfl) rfl).trans ?_
    refine (r_ild (dk D210 18 rfl) ar_60).trans (ck3 fun g1 => ?_)
    refine (r_isn (L' := [.ref 46, .int l1, .int (I 60 (Int32.toNatClampNeg l1)), .retAddr 0]) (dk D210 19 rfl) (Nat.le_of_ble_eq_true rfl) rfl).trans ?_
    refine (r_aln (dk D210 20 rfl) rfl).trans ?_
    refine (r_getR (dk D210 21 rfl) ow210 q12_71 ob_46 rfl).trans ?_
    refine (r_iln (dk D210 22 rfl) rfl).trans ?_
    refine (r_aln (dk D210 23 rfl) rfl).trans ?_
    refine (r_getR (dk D210 24 rfl) ow210 q12_74 ob_46 rfl).trans ?_
    refine (r_iln (dk D210 25 rfl) rfl).trans ?_
    refine (r_ild (dk D210 26 rfl) ar_62).trans (ck3 fun g2 => ?_)
    refine (r_aln (dk D210 27 rfl) rfl).trans ?_
    refine (r_getI (dk D210 28 rfl) ow210 q12_13 ob_46).trans ?_
    refine (r_ge (dk D210 29 rfl) rfl).trans (ite2 ?_ ?_)
    · refine (r_ic (dk D210 30 rfl) cim1).trans ?_
      refine (r_goto (L' := [.ref 46, .int l1, .int (I 60 (Int32.toNatClampNeg l1)), .retAddr 0]) (dk D210 31 rfl) rfl nd210_57 rfl).trans ?_
      exact rfl
    · refine (r_ic (dk D210 32 rfl) ci0).trans ?_
      exact rfl
  · exact r_rev (dk D210 95 rfl) rt210
theorem E210_57 {d sl : Nat} {p : Nat → Nat} {I : Nat → Nat → Int32} {J : Nat → Nat → Int64} (l1 : Int32) (l2 : Int32) (s0 : Int32) (s1 : Int32)  : ev d 210 57 [.ref 46, .int l1, .int l2, .retAddr 0] [.int s0, .int s1, .ref 61] (S sl p I J) = ck (ixb 60 s1) (ck (ixb 60 l1) ((if ((up2 I 61 (Int32.toNatClampNeg s1) s0) 61 (Int32.toNatClampNeg l1)) = (-1) then ev d 210 19 [.ref 46, .int (l1 + 1), .retAddr 0, .retAddr 0] [] (S sl p (up2 I 61 (Int32.toNatClampNeg s1) s0) J) else ev d 210 73 [.ref 46, .int l1, .int l2, .int 0] [] (S sl p (up2 I 61 (Int32.toNatClampNeg s1) s0) J)))) := by
  refine (r_ist (dk D210 33 rfl) ar_61).trans (ck3 fun g1 => ?_)
  refine (r_aln (dk D210 34 rfl) rfl).trans ?_
  refine (r_getR (dk D210 35 rfl) ow210 q12_71 ob_46 rfl).trans ?_
  refine (r_iln (dk D210 36 rfl) rfl).trans ?_
  refine (r_ild (dk D210 37 rfl) ar_61).trans (ck3 fun g2 => ?_)
  refine (r_ic (dk D210 38 rfl) cim1).trans ?_
  refine (r_ne (dk D210 39 rfl) rfl).trans (ite2 ?_ ?_)
  · refine (r_goto (L' := [.ref 46, .int l1, .int l2, .retAddr 0]) (dk D210 40 rfl) rfl nd210_159 rfl).trans ?_
    refine (r_inc (L' := [.ref 46, .int (l1 + 1), .int l2, .retAddr 0]) (dk D210 93 rfl) rfl rfl ci1 (Nat.le_of_ble_eq_true rfl) rfl).trans ?_
    refine (r_goto (L' := [.ref 46, .int (l1 + 1), .retAddr 0, .retAddr 0]) (dk D210 94 rfl) rfl nd210_19 rfl).trans ?_
    exact rfl
  · refine (r_ic (dk D210 41 rfl) ci0).trans ?_
    refine (r_isn (L' := [.ref 46, .int l1, .int l2, .int 0]) (dk D210 42 rfl) (Nat.le_of_ble_eq_true rfl) rfl).trans ?_
    exact rfl
theorem E210_73 {d sl : Nat} {p : Nat → Nat} {I : Nat → Nat → Int32} {J : Nat → Nat → Int64} (l1 : Int32) (l2 : Int32) (l3 : Int32)  : ev d 210 73 [.ref 46, .int l1, .int l2, .int l3] [] (S sl p I J) = (if l3 < (I 46 30) then ck (ixb 60 l1) (ck (ixb 60 l3) ((if (I 62 (Int32.toNatClampNeg l3)) < (I 46 4) then ck (ixb 60 l1) (ev d 210 73 [.ref 46, .int l1, .int l2, .int (l3 + 1)] [] (S sl p (up2 I 61 (Int32.toNatClampNeg l1) ((I 61 (Int32.toNatClampNeg l1)) + 0)) J)) else ck (ixb 60 l3) (ck (ixb 60 l2) ((if (I 62 (Int32.toNatClampNeg l3)) ≤ (I 62 (Int32.toNatClampNeg l2)) then ck (ixb 60 l3) (ck (ixb 60 l2) ((if (I 62 (Int32.toNatClampNeg l3)) = (I 62 (Int32.toNatClampNeg l2)) then ck (ixb 60 l3) (ck (ixb 60 l2) ((if (I 63 (Int32.toNatClampNeg l3)) < (I 63 (Int32.toNatClampNeg l2)) then ck (ixb 60 l1) (ev d 210 73 [.ref 46, .int l1, .int l2, .int (l3 + 1)] [] (S sl p (up2 I 61 (Int32.toNatClampNeg l1) ((I 61 (Int32.toNatClampNeg l1)) + 1)) J)) else ck (ixb 60 l1) (ev d 210 73 [.ref 46, .int l1, .int l2, .int (l3 + 1)] [] (S sl p (up2 I 61 (Int32.toNatClampNeg l1) ((I 61 (Int32.toNatClampNeg l1)) + 0)) J))))) else ck (ixb 60 l1) (ev d 210 73 [.ref 46, .int l1, .int l2, .int (l3 + 1)] [] (S sl p (up2 I 61 (Int32.toNatClampNeg l1) ((I 61 (Int32.toNatClampNeg l1)) + 0)) J))))) else ck (ixb 60 l1) (ev d 210 73 [.ref 46, .int l1, .int l2, .int (l3 + 1)] [] (S sl p (up2 I 61 (Int32.toNatClampNeg l1) ((I 61 (Int32.toNatClampNeg l1)) + 1)) J)))))))) else ev d 210 19 [.ref 46, .int (l1 + 1), .retAddr 0, .retAddr 0] [] (S sl p I J)) := by
  refine (r_iln (dk D210 43 rfl) rfl).trans ?_
  refine (r_aln (dk D210 44 rfl) rfl).trans ?_
  refine (r_getI (dk D210 45 rfl) ow210 q12_226 ob_46).trans ?_
  refine (r_ge (dk D210 46 rfl) rfl).trans (ite2 ?_ ?_)
  · refine (r_aln (dk D210 47 rfl) rfl).trans ?_
    refine (r_getR (dk D210 48 rfl) ow210 q12_71 ob_46 rfl).trans ?_
    refine (r_iln (dk D210 49 rfl) rfl).trans ?_
    refine (r_dup2 (dk D210 50 rfl) rfl rfl).trans ?_
    refine (r_ild (dk D210 51 rfl) ar_61).trans (ck3 fun g1 => ?_)
    refine (r_aln (dk D210 52 rfl) rfl).trans ?_
    refine (r_getR (dk D210 53 rfl) ow210 q12_74 ob_46 rfl).trans ?_
    refine (r_iln (dk D210 54 rfl) rfl).trans ?_
    refine (r_ild (dk D210 55 rfl) ar_62).trans (ck3 fun g2 => ?_)
    refine (r_aln (dk D210 56 rfl) rfl).trans ?_
    refine (r_getI (dk D210 57 rfl) ow210 q12_13 ob_46).trans ?_
    refine (r_lt (dk D210 58 rfl) rfl).trans (ite2 ?_ ?_)
    · refine (r_ic (dk D210 88 rfl) ci0).trans ?_
      refine (r_iadd (dk D210 89 rfl)).trans ?_
      refine (r_ist (dk D210 90 rfl) ar_61).trans (ck3 fun g3 => ?_)
      refine (r_inc (L' := [.ref 46, .int l1, .int l2, .int (l3 + 1)]) (dk D210 91 rfl) rfl rfl ci1 (Nat.le_of_ble_eq_true rfl) rfl).trans ?_
      refine (r_goto (L' := [.ref 46, .int l1, .int l2, .int (l3 + 1)]) (dk D210 92 rfl) rfl nd210_73 rfl).trans ?_
      exact rfl
    · refine (r_aln (dk D210 59 rfl) rfl).trans ?_
      refine (r_getR (dk D210 60 rfl) ow210 q12_74 ob_46 rfl).trans ?_
      refine (r_iln (dk D210 61 rfl) rfl).trans ?_
      refine (r_ild (dk D210 62 rfl) ar_62).trans (ck3 fun g4 => ?_)
      refine (r_aln (dk D210 63 rfl) rfl).trans ?_
      refine (r_getR (dk D210 64 rfl) ow210 q12_74 ob_46 rfl).trans ?_
      refine (r_iln (dk D210 65 rfl) rfl).trans ?_
      refine (r_ild (dk D210 66 rfl) ar_62).trans (ck3 fun g5 => ?_)
      refine (r_gt (dk D210 67 rfl) rfl).trans (ite2 ?_ ?_)
      · refine (r_aln (dk D210 68 rfl) rfl).trans ?_
        refine (r_getR (dk D210 69 rfl) ow210 q12_74 ob_46 rfl).trans ?_
        refine (r_iln (dk D210 70 rfl) rfl).trans ?_
        refine (r_ild (dk D210 71 rfl) ar_62).trans (ck3 fun g6 => ?_)
        refine (r_aln (dk D210 72 rfl) rfl).trans ?_
        refine (r_getR (dk D210 73 rfl) ow210 q12_74 ob_46 rfl).trans ?_
        refine (r_iln (dk D210 74 rfl) rfl).trans ?_
        refine (r_ild (dk D210 75 rfl) ar_62).trans (ck3 fun g7 => ?_)
        refine (r_ne (dk D210 76 rfl) rfl).trans (ite2 ?_ ?_)
        · refine (r_aln (dk D210 77 rfl) rfl).trans ?_
          refine (r_getR (dk D210 78 rfl) ow210 q12_77 ob_46 rfl).trans ?_
          refine (r_iln (dk D210 79 rfl) rfl).trans ?_
          refine (r_ild (dk D210 80 rfl) ar_63).trans (ck3 fun g8 => ?_)
          refine (r_aln (dk D210 81 rfl) rfl).trans ?_
          refine (r_getR (dk D210 82 rfl) ow210 q12_77 ob_46 rfl).trans ?_
          refine (r_iln (dk D210 83 rfl) rfl).trans ?_
          refine (r_ild (dk D210 84 rfl) ar_63).trans (ck3 fun g9 => ?_)
          refine (r_ge (dk D210 85 rfl) rfl).trans (ite2 ?_ ?_)
          · refine (r_ic (dk D210 86 rfl) ci1).trans ?_
            refine (r_goto (L' := [.ref 46, .int l1, .int l2, .int l3]) (dk D210 87 rfl) rfl nd210_151 rfl).trans ?_
            refine (r_iadd (dk D210 89 rfl)).trans ?_
            refine (r_ist (dk D210 90 rfl) ar_61).trans (ck3 fun g10 => ?_)
            refine (r_inc (L' := [.ref 46, .int l1, .int l2, .int (l3 + 1)]) (dk D210 91 rfl) rfl rfl ci1 (Nat.le_of_ble_eq_true rfl) rfl).trans ?_
            refine (r_goto (L' := [.ref 46, .int l1, .int l2, .int (l3 + 1)]) (dk D210 92 rfl) rfl nd210_73 rfl).trans ?_
            exact rfl
          · refine (r_ic (dk D210 88 rfl) ci0).trans ?_
            refine (r_iadd (dk D210 89 rfl)).trans ?_
            refine (r_ist (dk D210 90 rfl) ar_61).trans (ck3 fun g11 => ?_)
            refine (r_inc (L' := [.ref 46, .int l1, .int l2, .int (l3 + 1)]) (dk D210 91 rfl) rfl rfl ci1 (Nat.le_of_ble_eq_true rfl) rfl).trans ?_
            refine (r_goto (L' := [.ref 46, .int l1, .int l2, .int (l3 + 1)]) (dk D210 92 rfl) rfl nd210_73 rfl).trans ?_
            exact rfl
        · refine (r_ic (dk D210 88 rfl) ci0).trans ?_
          refine (r_iadd (dk D210 89 rfl)).trans ?_
          refine (r_ist (dk D210 90 rfl) ar_61).trans (ck3 fun g12 => ?_)
          refine (r_inc (L' := [.ref 46, .int l1, .int l2, .int (l3 + 1)]) (dk D210 91 rfl) rfl rfl ci1 (Nat.le_of_ble_eq_true rfl) rfl).trans ?_
          refine (r_goto (L' := [.ref 46, .int l1, .int l2, .int (l3 + 1)]) (dk D210 92 rfl) rfl nd210_73 rfl).trans ?_
          exact rfl
      · refine (r_ic (dk D210 86 rfl) ci1).trans ?_
        refine (r_goto (L' := [.ref 46, .int l1, .int l2, .int l3]) (dk D210 87 rfl) rfl nd210_151 rfl).trans ?_
        refine (r_iadd (dk D210 89 rfl)).trans ?_
        refine (r_ist (dk D210 90 rfl) ar_61).trans (ck3 fun g13 => ?_)
        refine (r_inc (L' := [.ref 46, .int l1, .int l2, .int (l3 + 1)]) (dk D210 91 rfl) rfl rfl ci1 (Nat.le_of_ble_eq_true rfl) rfl).trans ?_
        refine (r_goto (L' := [.ref 46, .int l1, .int l2, .int (l3 + 1)]) (dk D210 92 rfl) rfl nd210_73 rfl).trans ?_
        exact rfl
  · refine (r_inc (L' := [.ref 46, .int (l1 + 1), .int l2, .int l3]) (dk D210 93 rfl) rfl rfl ci1 (Nat.le_of_ble_eq_true rfl) rfl).trans ?_
    refine (r_goto (L' := [.ref 46, .int (l1 + 1), .retAddr 0, .retAddr 0]) (dk D210 94 rfl) rfl nd210_19 rfl).trans ?_
    exact rfl
set_option maxRecDepth 20000 in
theorem D211 : dOK 211 [(0, .iconst 0, 1), (1, .istore_n 2, 1), (2, .iconst 0, 1), (3, .istore_n 3, 1), (4, .iload_n 3, 1), (5, .aload_n 0, 1), (6, .getfield 196, 3), (9, .if_icmp .ge 27, 3), (12, .iload_n 2, 1), (13, .aload_n 0, 1), (14, .getfield 71, 3), (17, .iload_n 3, 1), (18, .iaload, 1), (19, .iload_n 1, 1), (20, .if_icmp .ne 7, 3), (23, .iconst 1, 1), (24, .goto 4, 3), (27, .iconst 0, 1), (28, .iadd, 1), (29, .istore_n 2, 1), (30, .iinc 3 1, 3), (33, .goto (-29), 3), (36, .iload_n 2, 1), (37, .ireturn, 1)] = true := by decide +kernel
theorem E211_0 {d sl : Nat} {p : Nat → Nat} {I : Nat → Nat → Int32} {J : Nat → Nat → Int64} (a1 : Int32)  : den d 211 [.ref 46, .int a1] (S sl p I J) = ev d 211 4 [.ref 46, .int a1, .int 0, .int 0] [] (S sl p I J) := by
  refine (show den d 211 [.ref 46, .int a1] (S sl p I J) = ev d 211 0 [.ref 46, .int a1, .retAddr 0, .retAddr 0] [] (S sl p I J) from rfl).trans ?_
  refine (r_ic (dk D211 0 rfl) ci0).trans ?_
  refine (r_isn (L' := [.ref 46, .int a1, .int 0, .retAddr 0]) (dk D211 1 rfl) (Nat.le_of_ble_eq_true rfl) rfl).trans ?_
  refine (r_ic (dk D211 2 rfl) ci0).trans ?_
  refine (r_isn (L' := [.ref 46, .int a1, .int 0, .int 0]) (dk D211 3 rfl) (Nat.le_of_ble_eq_true rfl) rfl).trans ?_
  exact rfl
theorem E211_4 {d sl : Nat} {p : Nat → Nat} {I : Nat → Nat → Int32} {J : Nat → Nat → Int64} (l1 : Int32) (l2 : Int32) (l3 : Int32)  : ev d 211 4 [.ref 46, .int l1, .int l2, .int l3] [] (S sl p I J) = (if l3 < (I 46 2) then ck (ixb 60 l3) ((if (I 61 (Int32.toNatClampNeg l3)) = l1 then ev d 211 4 [.ref 46, .int l1, .int (l2 + 1), .int (l3 + 1)] [] (S sl p I J) else ev d 211 4 [.ref 46, .int l1, .int (l2 + 0), .int (l3 + 1)] [] (S sl p I J))) else some (some (.int l2), (S sl p I J))) := by
  refine (r_iln (dk D211 4 rfl) rfl).trans ?_
  refine (r_aln (dk D211 5 rfl) rfl).trans ?_
  refine (r_getI (dk D211 6 rfl) ow211 q12_196 ob_46).trans ?_
  refine (r_ge (dk D211 7 rfl) rfl).trans (ite2 ?_ ?_)
  · refine (r_iln (dk D211 8 rfl) rfl).trans ?_
    refine (r_aln (dk D211 9 rfl) rfl).trans ?_
    refine (r_getR (dk D211 10 rfl) ow211 q12_71 ob_46 rfl).trans ?_
    refine (r_iln (dk D211 11 rfl) rfl).trans ?_
    refine (r_ild (dk D211 12 rfl) ar_61).trans (ck3 fun g1 => ?_)
    refine (r_iln (dk D211 13 rfl) rfl).trans ?_
    refine (r_ne (dk D211 14 rfl) rfl).trans (ite2 ?_ ?_)
    · refine (r_ic (dk D211 15 rfl) ci1).trans ?_
      refine (r_goto (L' := [.ref 46, .int l1, .int l2, .int l3]) (dk D211 16 rfl) rfl nd211_28 rfl).trans ?_
      refine (r_iadd (dk D211 18 rfl)).trans ?_
      refine (r_isn (L' := [.ref 46, .int l1, .int (l2 + 1), .int l3]) (dk D211 19 rfl) (Nat.le_of_ble_eq_true rfl) rfl).trans ?_
      refine (r_inc (L' := [.ref 46, .int l1, .int (l2 + 1), .int (l3 + 1)]) (dk D211 20 rfl) rfl rfl ci1 (Nat.le_of_ble_eq_true rfl) rfl).trans ?_
      refine (r_goto (L' := [.ref 46, .int l1, .int (l2 + 1), .int (l3 + 1)]) (dk D211 21 rfl) rfl nd211_4 rfl).trans ?_
      exact rfl
    · refine (r_ic (dk D211 17 rfl) ci0).trans ?_
      refine (r_iadd (dk D211 18 rfl)).trans ?_
      refine (r_isn (L' := [.ref 46, .int l1, .int (l2 + 0), .int l3]) (dk D211 19 rfl) (Nat.le_of_ble_eq_true rfl) rfl).trans ?_
      refine (r_inc (L' := [.ref 46, .int l1, .int (l2 + 0), .int (l3 + 1)]) (dk D211 20 rfl) rfl rfl ci1 (Nat.le_of_ble_eq_true rfl) rfl).trans ?_
      refine (r_goto (L' := [.ref 46, .int l1, .int (l2 + 0), .int (l3 + 1)]) (dk D211 21 rfl) rfl nd211_4 rfl).trans ?_
      exact rfl
  · refine (r_iln (dk D211 22 rfl) rfl).trans ?_
    exact r_ret (dk D211 23 rfl) rt211
set_option maxRecDepth 20000 in
theorem D212 : dOK 212 [(0, .iconst 0, 1), (1, .istore_n 3, 1), (2, .iconst 0, 1), (3, .istore 4, 2), (5, .iload 4, 2), (7, .aload_n 0, 1), (8, .getfield 196, 3), (11, .if_icmp .ge 42, 3), (14, .iload_n 3, 1), (15, .aload_n 0, 1), (16, .getfield 71, 3), (19, .iload 4, 2), (21, .iaload, 1), (22, .iload_n 2, 1), (23, .if_icmp .ne 21, 3), (26, .aload_n 0, 1), (27, .iload_n 1, 1), (28, .iload 4, 2), (30, .aload_n 0, 1), (31, .getfield 7, 3), (34, .invokevirtual 229, 3), (37, .ifCond .eq 7, 3), (40, .iconst 1, 1), (41, .goto 4, 3), (44, .iconst 0, 1), (45, .iadd, 1), (46, .istore_n 3, 1), (47, .iinc 4 1, 3), (50, .goto (-45), 3), (53, .iload_n 3, 1), (54, .ireturn, 1)] = true := by decide +kernel
theorem E212_0 {d sl : Nat} {p : Nat → Nat} {I : Nat → Nat → Int32} {J : Nat → Nat → Int64} (a1 : Int32) (a2 : Int32)  : den d 212 [.ref 46, .int a1, .int a2] (S sl p I J) = ev d 212 5 [.ref 46, .int a1, .int a2, .int 0, .int 0] [] (S sl p I J) := by
  refine (show den d 212 [.ref 46, .int a1, .int a2] (S sl p I J) = ev d 212 0 [.ref 46, .int a1, .int a2, .retAddr 0, .retAddr 0] [] (S sl p I J) from rfl).trans ?_
  refine (r_ic (dk D212 0 rfl) ci0).trans ?_
  refine (r_isn (L' := [.ref 46, .int a1, .int a2, .int 0, .retAddr 0]) (dk D212 1 rfl) (Nat.le_of_ble_eq_true rfl) rfl).trans ?_
  refine (r_ic (dk D212 2 rfl) ci0).trans ?_
  refine (r_is (L' := [.ref 46, .int a1, .int a2, .int 0, .int 0]) (dk D212 3 rfl) (Nat.le_of_ble_eq_true rfl) rfl).trans ?_
  exact rfl
theorem E212_5 {d sl : Nat} {p : Nat → Nat} {I : Nat → Nat → Int32} {J : Nat → Nat → Int64} (l1 : Int32) (l2 : Int32) (l3 : Int32) (l4 : Int32)  : ev (d + 1) 212 5 [.ref 46, .int l1, .int l2, .int l3, .int l4] [] (S sl p I J) = (if l4 < (I 46 2) then ck (ixb 60 l4) ((if (I 61 (Int32.toNatClampNeg l4)) = l2 then evK (d + 1) 212 37 [.ref 46, .int l1, .int l2, .int l3, .int l4] [.int l3] (den d 195 [.ref 46, .int l1, .int l4, .int (I 46 3)] (S sl p I J)) else ev (d + 1) 212 5 [.ref 46, .int l1, .int l2, .int (l3 + 0), .int (l4 + 1)] [] (S sl p I J))) else some (some (.int l3), (S sl p I J))) := by
  refine (r_il (dk D212 4 rfl) rfl).trans ?_
  refine (r_aln (dk D212 5 rfl) rfl).trans ?_
  refine (r_getI (dk D212 6 rfl) ow212 q12_196 ob_46).trans ?_
  refine (r_ge (dk D212 7 rfl) rfl).trans (ite2 ?_ ?_)
  · refine (r_iln (dk D212 8 rfl) rfl).trans ?_
    refine (r_aln (dk D212 9 rfl) rfl).trans ?_
    refine (r_getR (dk D212 10 rfl) ow212 q12_71 ob_46 rfl).trans ?_
    refine (r_il (dk D212 11 rfl) rfl).trans ?_
    refine (r_ild (dk D212 12 rfl) ar_61).trans (ck3 fun g1 => ?_)
    refine (r_iln (dk D212 13 rfl) rfl).trans ?_
    refine (r_ne (dk D212 14 rfl) rfl).trans (ite2 ?_ ?_)
    · refine (r_aln (dk D212 15 rfl) rfl).trans ?_
      refine (r_iln (dk D212 16 rfl) rfl).trans ?_
      refine (r_il (dk D212 17 rfl) rfl).trans ?_
      refine (r_aln (dk D212 18 rfl) rfl).trans ?_
      refine (r_getI (dk D212 19 rfl) ow212 q12_7 ob_46).trans ?_
      exact r_cv (dk D212 20 rfl) ow212 c12_229 mf195 (Nat.le_of_ble_eq_true rfl) rfl rfl (Nat.le_of_ble_eq_true rfl) (Nat.le_of_ble_eq_true rfl) ob_46
    · refine (r_ic (dk D212 24 rfl) ci0).trans ?_
      refine (r_iadd (dk D212 25 rfl)).trans ?_
      refine (r_isn (L' := [.ref 46, .int l1, .int l2, .int (l3 + 0), .int l4]) (dk D212 26 rfl) (Nat.le_of_ble_eq_true rfl) rfl).trans ?_
      refine (r_inc (L' := [.ref 46, .int l1, .int l2, .int (l3 + 0), .int (l4 + 1)]) (dk D212 27 rfl) rfl rfl ci1 (Nat.le_of_ble_eq_true rfl) rfl).trans ?_
      refine (r_goto (L' := [.ref 46, .int l1, .int l2, .int (l3 + 0), .int (l4 + 1)]) (dk D212 28 rfl) rfl nd212_5 rfl).trans ?_
      exact rfl
  · refine (r_iln (dk D212 29 rfl) rfl).trans ?_
    exact r_ret (dk D212 30 rfl) rt212
theorem E212_37 {d sl : Nat} {p : Nat → Nat} {I : Nat → Nat → Int32} {J : Nat → Nat → Int64} (l1 : Int32) (l2 : Int32) (l3 : Int32) (l4 : Int32) (s0 : Int32) (s1 : Int32)  : ev d 212 37 [.ref 46, .int l1, .int l2, .int l3, .int l4] [.int s0, .int s1] (S sl p I J) = (if s0 = 0 then ev d 212 5 [.ref 46, .int l1, .int l2, .int (s1 + 0), .int (l4 + 1)] [] (S sl p I J) else ev d 212 5 [.ref 46, .int l1, .int l2, .int (s1 + 1), .int (l4 + 1)] [] (S sl p I J)) := by
  refine (r_eq0 (dk D212 21 rfl) rfl).trans (ite2 ?_ ?_)
  · refine (r_ic (dk D212 24 rfl) ci0).trans ?_
    refine (r_iadd (dk D212 25 rfl)).trans ?_
    refine (r_isn (L' := [.ref 46, .int l1, .int l2, .int (s1 + 0), .int l4]) (dk D212 26 rfl) (Nat.le_of_ble_eq_true rfl) rfl).trans ?_
    refine (r_inc (L' := [.ref 46, .int l1, .int l2, .int (s1 + 0), .int (l4 + 1)]) (dk D212 27 rfl) rfl rfl ci1 (Nat.le_of_ble_eq_true rfl) rfl).trans ?_
    refine (r_goto (L' := [.ref 46, .int l1, .int l2, .int (s1 + 0), .int (l4 + 1)]) (dk D212 28 rfl) rfl nd212_5 rfl).trans ?_
    exact rfl
  · refine (r_ic (dk D212 22 rfl) ci1).trans ?_
    refine (r_goto (L' := [.ref 46, .int l1, .int l2, .int l3, .int l4]) (dk D212 23 rfl) rfl nd212_45 rfl).trans ?_
    refine (r_iadd (dk D212 25 rfl)).trans ?_
    refine (r_isn (L' := [.ref 46, .int l1, .int l2, .int (s1 + 1), .int l4]) (dk D212 26 rfl) (Nat.le_of_ble_eq_true rfl) rfl).trans ?_
    refine (r_inc (L' := [.ref 46, .int l1, .int l2, .int (s1 + 1), .int (l4 + 1)]) (dk D212 27 rfl) rfl rfl ci1 (Nat.le_of_ble_eq_true rfl) rfl).trans ?_
    refine (r_goto (L' := [.ref 46, .int l1, .int l2, .int (s1 + 1), .int (l4 + 1)]) (dk D212 28 rfl) rfl nd212_5 rfl).trans ?_
    exact rfl
set_option maxRecDepth 20000 in
theorem D213 : dOK 213 [(0, .iconst (-1), 1), (1, .istore_n 2, 1), (2, .iconst 0, 1), (3, .istore_n 3, 1), (4, .iload_n 3, 1), (5, .aload_n 0, 1), (6, .getfield 196, 3), (9, .if_icmp .ge 75, 3), (12, .aload_n 0, 1), (13, .getfield 71, 3), (16, .iload_n 3, 1), (17, .iaload, 1), (18, .iload_n 1, 1), (19, .if_icmp .eq 6, 3), (22, .goto 56, 3), (25, .iload_n 2, 1), (26, .iconst (-1), 1), (27, .if_icmp .ne 7, 3), (30, .iconst 1, 1), (31, .goto 16, 3), (34, .aload_n 0, 1), (35, .iload_n 3, 1), (36, .iload_n 1, 1), (37, .invokevirtual 247, 3), (40, .aload_n 0, 1), (41, .iload_n 2, 1), (42, .iload_n 1, 1), (43, .invokevirtual 247, 3), (46, .isub, 1), (47, .istore 4, 2), (49, .iload 4, 2), (51, .ifCond .gt 21, 3), (54, .iload 4, 2), (56, .ifCond .ne 20, 3), (59, .aload_n 0, 1), (60, .iload_n 3, 1), (61, .invokevirtual 233, 3), (64, .aload_n 0, 1), (65, .iload_n 2, 1), (66, .invokevirtual 233, 3), (69, .if_icmp .ge 7, 3), (72, .iload_n 3, 1), (73, .goto 4, 3), (76, .iload_n 2, 1), (77, .istore_n 2, 1), (78, .iinc 3 1, 3), (81, .goto (-77), 3), (84, .iload_n 2, 1), (85, .ireturn, 1)] = true := by decide +kernel
theorem E213_0 {d sl : Nat} {p : Nat → Nat} {I : Nat → Nat → Int32} {J : Nat → Nat → Int64} (a1 : Int32)  : den d 213 [.ref 46, .int a1] (S sl p I J) = ev d 213 4 [.ref 46, .int a1, .int (-1), .int 0, .retAddr 0] [] (S sl p I J) := by
  refine (show den d 213 [.ref 46, .int a1] (S sl p I J) = ev d 213 0 [.ref 46, .int a1, .retAddr 0, .retAddr 0, .retAddr 0] [] (S sl p I J) from rfl).trans ?_
  refine (r_ic (dk D213 0 rfl) cim1).trans ?_
  refine (r_isn (L' := [.ref 46, .int a1, .int (-1), .retAddr 0, .retAddr 0]) (dk D213 1 rfl) (Nat.le_of_ble_eq_true rfl) rfl).trans ?_
  refine (r_ic (dk D213 2 rfl) ci0).trans ?_
  refine (r_isn (L' := [.ref 46, .int a1, .int (-1), .int 0, .retAddr 0]) (dk D213 3 rfl) (Nat.le_of_ble_eq_true rfl) rfl).trans ?_
  exact rfl
theorem E213_4 {d sl : Nat} {p : Nat → Nat} {I : Nat → Nat → Int32} {J : Nat → Nat → Int64} (l1 : Int32) (l2 : Int32) (l3 : Int32)  : ev (d + 1) 213 4 [.ref 46, .int l1, .int l2, .int l3, .retAddr 0] [] (S sl p I J) = (if l3 < (I 46 2) then ck (ixb 60 l3) ((if (I 61 (Int32.toNatClampNeg l3)) = l1 then (if l2 = (-1) then ev (d + 1) 213 47 [.ref 46, .int l1, .int l2, .int l3, .retAddr 0] [.int 1] (S sl p I J) else evK (d + 1) 213 40 [.ref 46, .int l1, .int l2, .int l3, .retAddr 0] [] (den d 212 [.ref 46, .int l3, .int l1] (S sl p I J))) else ev (d + 1) 213 4 [.ref 46, .int l1, .int l2, .int (l3 + 1), .retAddr 0] [] (S sl p I J))) else some (some (.int l2), (S sl p I J))) := by
  refine (r_iln (dk D213 4 rfl) rfl).trans ?_
  refine (r_aln (dk D213 5 rfl) rfl).trans ?_
  refine (r_getI (dk D213 6 rfl) ow213 q12_196 ob_46).trans ?_
  refine (r_ge (dk D213 7 rfl) rfl).trans (ite2 ?_ ?_)
  · refine (r_aln (dk D213 8 rfl) rfl).trans ?_
    refine (r_getR (dk D213 9 rfl) ow213 q12_71 ob_46 rfl).trans ?_
    refine (r_iln (dk D213 10 rfl) rfl).trans ?_
    refine (r_ild (dk D213 11 rfl) ar_61).trans (ck3 fun g1 => ?_)
    refine (r_iln (dk D213 12 rfl) rfl).trans ?_
    refine (r_eq (dk D213 13 rfl) rfl).trans (ite2 ?_ ?_)
    · refine (r_iln (dk D213 15 rfl) rfl).trans ?_
      refine (r_ic (dk D213 16 rfl) cim1).trans ?_
      refine (r_ne (dk D213 17 rfl) rfl).trans (ite2 ?_ ?_)
      · refine (r_ic (dk D213 18 rfl) ci1).trans ?_
        refine (r_goto (L' := [.ref 46, .int l1, .int l2, .int l3, .retAddr 0]) (dk D213 19 rfl) rfl nd213_47 rfl).trans ?_
        exact rfl
      · refine (r_aln (dk D213 20 rfl) rfl).trans ?_
        refine (r_iln (dk D213 21 rfl) rfl).trans ?_
        refine (r_iln (dk D213 22 rfl) rfl).trans ?_
        exact r_cv (dk D213 23 rfl) ow213 c12_247 mf212 (Nat.le_of_ble_eq_true rfl) rfl rfl (Nat.le_of_ble_eq_true rfl) (Nat.le_of_ble_eq_true rfl) ob_46
    · refine (r_goto (L' := [.ref 46, .int l1, .int l2, .int l3, .retAddr 0]) (dk D213 14 rfl) rfl nd213_78 rfl).trans ?_
      refine (r_inc (L' := [.ref 46, .int l1, .int l2, .int (l3 + 1), .retAddr 0]) (dk D213 45 rfl) rfl rfl ci1 (Nat.le_of_ble_eq_true rfl) rfl).trans ?_
      refine (r_goto (L' := [.ref 46, .int l1, .int l2, .int (l3 + 1), .retAddr 0]) (dk D213 46 rfl) rfl nd213_4 rfl).trans ?_
      exact rfl
  · refine (r_iln (dk D213 47 rfl) rfl).trans ?_
    exact r_ret (dk D213 48 rfl) rt213
theorem E213_40 {d sl : Nat} {p : Nat → Nat} {I : Nat → Nat → Int32} {J : Nat → Nat → Int64} (l1 : Int32) (l2 : Int32) (l3 : Int32) (s0 : Int32)  : ev (d + 1) 213 40 [.ref 46, .int l1, .int l2, .int l3, .retAddr 0] [.int s0] (S sl p I J) = evK (d + 1) 213 46 [.ref 46, .int l1, .int l2, .int l3, .retAddr 0] [.int s0] (den d 212 [.ref 46, .int l2, .int l1] (S sl p I J)) := by
  refine (r_aln (dk D213 24 rfl) rfl).trans ?_
  refine (r_iln (dk D213 25 rfl) rfl).trans ?_
  refine (r_iln (dk D213 26 rfl) rfl).trans ?_
  exact r_cv (dk D213 27 rfl) ow213 c12_247 mf212 (Nat.le_of_ble_eq_true rfl) rfl rfl (Nat.le_of_ble_eq_true rfl) (Nat.le_of_ble_eq_true rfl) ob_46
theorem E213_46 {d sl : Nat} {p : Nat → Nat} {I : Nat → Nat → Int32} {J : Nat → Nat → Int64} (l1 : Int32) (l2 : Int32) (l3 : Int32) (s0 : Int32) (s1 : Int32)  : ev d 213 46 [.ref 46, .int l1, .int l2, .int l3, .retAddr 0] [.int s0, .int s1] (S sl p I J) = ev d 213 47 [.ref 46, .int l1, .int l2, .int l3, .retAddr 0] [.int (s1 - s0)] (S sl p I J) := by
  refine (r_isub (dk D213 28 rfl)).trans ?_
  exact rfl
theorem E213_47 {d sl : Nat} {p : Nat → Nat} {I : Nat → Nat → Int32} {J : Nat → Nat → Int64} (l1 : Int32) (l2 : Int32) (l3 : Int32) (s0 : Int32)  : ev (d + 1) 213 47 [.ref 46, .int l1, .int l2, .int l3, .retAddr 0] [.int s0] (S sl p I J) = (if s0 ≤ 0 then (if s0 = 0 then evK (d + 1) 213 64 [.ref 46, .int l1, .int l2, .int l3, .int s0] [] (den d 207 [.ref 46, .int l3] (S sl p I J)) else ev (d + 1) 213 4 [.ref 46, .int l1, .int l2, .int (l3 + 1), .retAddr 0] [] (S sl p I J)) else ev (d + 1) 213 4 [.ref 46, .int l1, .int l3, .int (l3 + 1), .retAddr 0] [] (S sl p I J)) := by
  refine (r_is (L' := [.ref 46, .int l1, .int l2, .int l3, .int s0]) (dk D213 29 rfl) (Nat.le_of_ble_eq_true rfl) rfl).trans ?_
  refine (r_il (dk D213 30 rfl) rfl).trans ?_
  refine (r_gt0 (dk D213 31 rfl) rfl).trans (ite2 ?_ ?_)
  · refine (r_il (dk D213 32 rfl) rfl).trans ?_
    refine (r_ne0 (dk D213 33 rfl) rfl).trans (ite2 ?_ ?_)
    · refine (r_aln (dk D213 34 rfl) rfl).trans ?_
      refine (r_iln (dk D213 35 rfl) rfl).trans ?_
      exact r_cv (dk D213 36 rfl) ow213 c12_233 mf207 (Nat.le_of_ble_eq_true rfl) rfl rfl (Nat.le_of_ble_eq_true rfl) (Nat.le_of_ble_eq_true rfl) ob_46
    · refine (r_iln (dk D213 43 rfl) rfl).trans ?_
      refine (r_isn (L' := [.ref 46, .int l1, .int l2, .int l3, .int s0]) (dk D213 44 rfl) (Nat.le_of_ble_eq_true rfl) rfl).trans ?_
      refine (r_inc (L' := [.ref 46, .int l1, .int l2, .int (l3 + 1), .int s0]) (dk D213 45 rfl) rfl rfl ci1 (Nat.le_of_ble_eq_true rfl) rfl).trans ?_
      refine (r_goto (L' := [.ref 46, .int l1, .int l2, .int (l3 + 1), .retAddr 0]) (dk D213 46 rfl) rfl nd213_4 rfl).trans ?_
      exact rfl
  · refine (r_iln (dk D213 41 rfl) rfl).trans ?_
    refine (r_goto (L' := [.ref 46, .int l1, .int l2, .int l3, .int s0]) (dk D213 42 rfl) rfl nd213_77 rfl).trans ?_
    refine (r_isn (L' := [.ref 46, .int l1, .int l3, .int l3, .int s0]) (dk D213 44 rfl) (Nat.le_of_ble_eq_true rfl) rfl).trans ?_
    refine (r_inc (L' := [.ref 46, .int l1, .int l3, .int (l3 + 1), .int s0]) (dk D213 45 rfl) rfl rfl ci1 (Nat.le_of_ble_eq_true rfl) rfl).trans ?_
    refine (r_goto (L' := [.ref 46, .int l1, .int l3, .int (l3 + 1), .retAddr 0]) (dk D213 46 rfl) rfl nd213_4 rfl).trans ?_
    exact rfl
theorem E213_64 {d sl : Nat} {p : Nat → Nat} {I : Nat → Nat → Int32} {J : Nat → Nat → Int64} (l1 : Int32) (l2 : Int32) (l3 : Int32) (l4 : Int32) (s0 : Int32)  : ev (d + 1) 213 64 [.ref 46, .int l1, .int l2, .int l3, .int l4] [.int s0] (S sl p I J) = evK (d + 1) 213 69 [.ref 46, .int l1, .int l2, .int l3, .int l4] [.int s0] (den d 207 [.ref 46, .int l2] (S sl p I J)) := by
  refine (r_aln (dk D213 37 rfl) rfl).trans ?_
  refine (r_iln (dk D213 38 rfl) rfl).trans ?_
  exact r_cv (dk D213 39 rfl) ow213 c12_233 mf207 (Nat.le_of_ble_eq_true rfl) rfl rfl (Nat.le_of_ble_eq_true rfl) (Nat.le_of_ble_eq_true rfl) ob_46
theorem E213_69 {d sl : Nat} {p : Nat → Nat} {I : Nat → Nat → Int32} {J : Nat → Nat → Int64} (l1 : Int32) (l2 : Int32) (l3 : Int32) (l4 : Int32) (s0 : Int32) (s1 : Int32)  : ev d 213 69 [.ref 46, .int l1, .int l2, .int l3, .int l4] [.int s0, .int s1] (S sl p I J) = (if s1 < s0 then ev d 213 4 [.ref 46, .int l1, .int l3, .int (l3 + 1), .retAddr 0] [] (S sl p I J) else ev d 213 4 [.ref 46, .int l1, .int l2, .int (l3 + 1), .retAddr 0] [] (S sl p I J)) := by
  refine (r_ge (dk D213 40 rfl) rfl).trans (ite2 ?_ ?_)
  · refine (r_iln (dk D213 41 rfl) rfl).trans ?_
    refine (r_goto (L' := [.ref 46, .int l1, .int l2, .int l3, .int l4]) (dk D213 42 rfl) rfl nd213_77 rfl).trans ?_
    refine (r_isn (L' := [.ref 46, .int l1, .int l3, .int l3, .int l4]) (dk D213 44 rfl) (Nat.le_of_ble_eq_true rfl) rfl).trans ?_
    refine (r_inc (L' := [.ref 46, .int l1, .int l3, .int (l3 + 1), .int l4]) (dk D213 45 rfl) rfl rfl ci1 (Nat.le_of_ble_eq_true rfl) rfl).trans ?_
    refine (r_goto (L' := [.ref 46, .int l1, .int l3, .int (l3 + 1), .retAddr 0]) (dk D213 46 rfl) rfl nd213_4 rfl).trans ?_
    exact rfl
  · refine (r_iln (dk D213 43 rfl) rfl).trans ?_
    refine (r_isn (L' := [.ref 46, .int l1, .int l2, .int l3, .int l4]) (dk D213 44 rfl) (Nat.le_of_ble_eq_true rfl) rfl).trans ?_
    refine (r_inc (L' := [.ref 46, .int l1, .int l2, .int (l3 + 1), .int l4]) (dk D213 45 rfl) rfl rfl ci1 (Nat.le_of_ble_eq_true rfl) rfl).trans ?_
    refine (r_goto (L' := [.ref 46, .int l1, .int l2, .int (l3 + 1), .retAddr 0]) (dk D213 46 rfl) rfl nd213_4 rfl).trans ?_
    exact rfl
set_option maxRecDepth 20000 in
theorem D214 : dOK 214 [(0, .aload_n 0, 1), (1, .lconst 0, 1), (2, .putfield 250, 3), (5, .aload_n 0, 1), (6, .lconst 0, 1), (7, .putfield 254, 3), (10, .aload_n 0, 1), (11, .lconst 0, 1), (12, .putfield 257, 3), (15, .aload_n 0, 1), (16, .lconst 0, 1), (17, .putfield 260, 3), (20, .return_, 1)] = true := by decide +kernel
theorem E214_0 {d sl : Nat} {p : Nat → Nat} {I : Nat → Nat → Int32} {J : Nat → Nat → Int64}   : den d 214 [.ref 46] (S sl p I J) = some (none, (S sl p I (up2 (up2 (up2 (up2 J 46 32 0) 46 33 0) 46 34 0) 46 35 0))) := by
  refine (show den d 214 [.ref 46] (S sl p I J) = ev d 214 0 [.ref 46] [] (S sl p I J) from rfl).trans ?_
  refine (r_aln (dk D214 0 rfl) rfl).trans ?_
  refine (r_lc (dk D214 1 rfl) cl0).trans ?_
  refine (r_putJ (dk D214 2 rfl) ow214 w12_250 ob_46).trans ?_
  refine (r_aln (dk D214 3 rfl) rfl).trans ?_
  refine (r_lc (dk D214 4 rfl) cl0).trans ?_
  refine (r_putJ (dk D214 5 rfl) ow214 w12_254 ob_46).trans ?_
  refine (r_aln (dk D214 6 rfl) rfl).trans ?_
  refine (r_lc (dk D214 7 rfl) cl0).trans ?_
  refine (r_putJ (dk D214 8 rfl) ow214 w12_257 ob_46).trans ?_
  refine (r_aln (dk D214 9 rfl) rfl).trans ?_
  refine (r_lc (dk D214 10 rfl) cl0).trans ?_
  refine (r_putJ (dk D214 11 rfl) ow214 w12_260 ob_46).trans ?_
  exact r_rev (dk D214 12 rfl) rt214
set_option maxRecDepth 20000 in
theorem D215 : dOK 215 [(0, .iload 8, 2), (2, .ifCond .eq 9, 3), (5, .iload 7, 2), (7, .ineg, 1), (8, .goto 5, 3), (11, .iload 7, 2), (13, .istore 9, 2), (15, .aload_n 0, 1), (16, .dup, 1), (17, .getfield 250, 3), (20, .iload 9, 2), (22, .i2l, 1), (23, .lload_n 1, 1), (24, .lmul, 1), (25, .ladd, 1), (26, .putfield 250, 3), (29, .aload_n 0, 1), (30, .dup, 1), (31, .getfield 254, 3), (34, .iload 9, 2), (36, .i2l, 1), (37, .lload_n 3, 1), (38, .lmul, 1), (39, .ladd, 1), (40, .putfield 254, 3), (43, .aload_n 0, 1), (44, .dup, 1), (45, .getfield 257, 3), (48, .iload 9, 2), (50, .i2l, 1), (51, .lload 5, 2), (53, .lmul, 1), (54, .ladd, 1), (55, .putfield 257, 3), (58, .aload_n 0, 1), (59, .dup, 1), (60, .getfield 260, 3), (63, .iload 7, 2), (65, .i2l, 1), (66, .ladd, 1), (67, .putfield 260, 3), (70, .return_, 1)] = true := by decide +kernel
theorem E215_0 {d sl : Nat} {p : Nat → Nat} {I : Nat → Nat → Int32} {J : Nat → Nat → Int64} (a1 : Int64) (a2 : Int64) (a3 : Int64) (a4 : Int32) (a5 : Int32)  : den d 215 [.ref 46, .long a1, .long a2, .long a3, .int a4, .int a5] (S sl p I J) = (if a5 = 0 then ev d 215 13 [.ref 46, .long a1, .retAddr 0, .long a2, .retAddr 0, .long a3, .retAddr 0, .int a4, .int a5, .retAddr 0] [.int a4] (S sl p I J) else ev d 215 13 [.ref 46, .long a1, .retAddr 0, .long a2, .retAddr 0, .long a3, .retAddr 0, .int a4, .int a5, .retAddr 0] [.int (-a4)] (S sl p I J)) := by
  refine (show den d 215 [.ref 46, .long a1, .long a2, .long a3, .int a4, .int a5] (S sl p I J) = ev d 215 0 [.ref 46, .long a1, .retAddr 0, .long a2, .retAddr 0, .long a3, .retAddr 0, .int a4, .int a5, .retAddr 0] [] (S sl p I J) from rfl).trans ?_
  refine (r_il (dk D215 0 rfl) rfl).trans ?_
  refine (r_eq0 (dk D215 1 rfl) rfl).trans (ite2 ?_ ?_)
  · refine (r_il (dk D215 5 rfl) rfl).trans ?_
    exact rfl
  · refine (r_il (dk D215 2 rfl) rfl).trans ?_
    refine (r_ineg (dk D215 3 rfl)).trans ?_
    refine (r_goto (L' := [.ref 46, .long a1, .retAddr 0, .long a2, .retAddr 0, .long a3, .retAddr 0, .int a4, .int a5, .retAddr 0]) (dk D215 4 rfl) rfl nd215_13 rfl).trans ?_
    exact rfl
theorem E215_13 {d sl : Nat} {p : Nat → Nat} {I : Nat → Nat → Int32} {J : Nat → Nat → Int64} (l1 : Int64) (l3 : Int64) (l5 : Int64) (l7 : Int32) (l8 : Int32) (s0 : Int32)  : ev d 215 13 [.ref 46, .long l1, .retAddr 0, .long l3, .retAddr 0, .long l5, .retAddr 0, .int l7, .int l8, .retAddr 0] [.int s0] (S sl p I J) = some (none, (S sl p I (up2 (up2 (up2 (up2 J 46 32 ((J 46 32) + ((Int32.toInt64 s0) * l1))) 46 33 (((up2 J 46 32 ((J 46 32) + ((Int32.toInt64 s0) * l1))) 46 33) + ((Int32.toInt64 s0) * l3))) 46 34 (((up2 (up2 J 46 32 ((J 46 32) + ((Int32.toInt64 s0) * l1))) 46 33 (((up2 J 46 32 ((J 46 32) + ((Int32.toInt64 s0) * l1))) 46 33) + ((Int32.toInt64 s0) * l3))) 46 34) + ((Int32.toInt64 s0) * l5))) 46 35 (((up2 (up2 (up2 J 46 32 ((J 46 32) + ((Int32.toInt64 s0) * l1))) 46 33 (((up2 J 46 32 ((J 46 32) + ((Int32.toInt64 s0) * l1))) 46 33) + ((Int32.toInt64 s0) * l3))) 46 34 (((up2 (up2 J 46 32 ((J 46 32) + ((Int32.toInt64 s0) * l1))) 46 33 (((up2 J 46 32 ((J 46 32) + ((Int32.toInt64 s0) * l1))) 46 33) + ((Int32.toInt64 s0) * l3))) 46 34) + ((Int32.toInt64 s0) * l5))) 46 35) + (Int32.toInt64 l7))))) := by
  refine (r_is (L' := [.ref 46, .long l1, .retAddr 0, .long l3, .retAddr 0, .long l5, .retAddr 0, .int l7, .int l8, .int s0]) (dk D215 6 rfl) (Nat.le_of_ble_eq_true rfl) rfl).trans ?_
  refine (r_aln (dk D215 7 rfl) rfl).trans ?_
  refine (r_dup (dk D215 8 rfl) rfl).trans ?_
  refine (r_getJ (dk D215 9 rfl) ow215 q12_250 ob_46).trans ?_
  refine (r_il (dk D215 10 rfl) rfl).trans ?_
  refine (r_i2l (dk D215 11 rfl)).trans ?_
  refine (r_lln (dk D215 12 rfl) rfl).trans ?_
  refine (r_lmul (dk D215 13 rfl)).trans ?_
  refine (r_ladd (dk D215 14 rfl)).trans ?_
  refine (r_putJ (dk D215 15 rfl) ow215 w12_250 ob_46).trans ?_
  refine (r_aln (dk D215 16 rfl) rfl).trans ?_
  refine (r_dup (dk D215 17 rfl) rfl).trans ?_
  refine (r_getJ (dk D215 18 rfl) ow215 q12_254 ob_46).trans ?_
  refine (r_il (dk D215 19 rfl) rfl).trans ?_
  refine (r_i2l (dk D215 20 rfl)).trans ?_
  refine (r_lln (dk D215 21 rfl) rfl).trans ?_
  refine (r_lmul (dk D215 22 rfl)).trans ?_
  refine (r_ladd (dk D215 23 rfl)).trans ?_
  refine (r_putJ (dk D215 24 rfl) ow215 w12_254 ob_46).trans ?_
  refine (r_aln (dk D215 25 rfl) rfl).trans ?_
  refine (r_dup (dk D215 26 rfl) rfl).trans ?_
  refine (r_getJ (dk D215 27 rfl) ow215 q12_257 ob_46).trans ?_
  refine (r_il (dk D215 28 rfl) rfl).trans ?_
  refine (r_i2l (dk D215 29 rfl)).trans ?_
  refine (r_ll (dk D215 30 rfl) rfl).trans ?_
  refine (r_lmul (dk D215 31 rfl)).trans ?_
  refine (r_ladd (dk D215 32 rfl)).trans ?_
  refine (r_putJ (dk D215 33 rfl) ow215 w12_257 ob_46).trans ?_
  refine (r_aln (dk D215 34 rfl) rfl).trans ?_
  refine (r_dup (dk D215 35 rfl) rfl).trans ?_
  refine (r_getJ (dk D215 36 rfl) ow215 q12_260 ob_46).trans ?_
  refine (r_il (dk D215 37 rfl) rfl).trans ?_
  refine (r_i2l (dk D215 38 rfl)).trans ?_
  refine (r_ladd (dk D215 39 rfl)).trans ?_
  refine (r_putJ (dk D215 40 rfl) ow215 w12_260 ob_46).trans ?_
  exact r_rev (dk D215 41 rfl) rt215
set_option maxRecDepth 20000 in
theorem D216 : dOK 216 [(0, .aload_n 0, 1), (1, .invokevirtual 263, 3), (4, .iconst 0, 1), (5, .istore 9, 2), (7, .iload 9, 2), (9, .aload_n 0, 1), (10, .getfield 196, 3), (13, .if_icmp .ge 93, 3), (16, .aload_n 1, 1), (17, .iload 9, 2), (19, .iaload, 1), (20, .iload_n 2, 1), (21, .if_icmp .ne 79, 3), (24, .aload_n 0, 1), (25, .aload_n 0, 1), (26, .getfield 50, 3), (29, .iload 9, 2), (31, .iaload, 1), (32, .i2l, 1), (33, .aload_n 0, 1), (34, .getfield 53, 3), (37, .iload 9, 2), (39, .iaload, 1), (40, .i2l, 1), (41, .aload_n 0, 1), (42, .getfield 56, 3), (45, .iload 9, 2), (47, .iaload, 1), (48, .i2l, 1), (49, .aload_n 0, 1), (50, .iload 9, 2), (52, .invokevirtual 266, 3), (55, .aload_n 0, 1), (56, .getfield 50, 3), (59, .iload 9, 2), (61, .iaload, 1), (62, .i2l, 1), (63, .aload_n 0, 1), (64, .getfield 53, 3), (67, .iload 9, 2), (69, .iaload, 1), (70, .i2l, 1), (71, .aload_n 0, 1), (72, .getfield 56, 3), (75, .iload 9, 2), (77, .iaload, 1), (78, .i2l, 1), (79, .lload_n 3, 1), (80, .lload 5, 2), (82, .lload 7, 2), (84, .invokestatic 136, 3), (87, .lconst 0, 1), (88, .lcmp, 1), (89, .ifCond .ge 7, 3), (92, .iconst 1, 1), (93, .goto 4, 3), (96, .iconst 0, 1), (97, .invokevirtual 269, 3), (100, .iinc 9 1, 3), (103, .goto (-96), 3), (106, .return_, 1)] = true := by decide +kernel
theorem E216_0 {d sl : Nat} {p : Nat → Nat} {I : Nat → Nat → Int32} {J : Nat → Nat → Int64} {a1 : Nat} {n1 : Nat} (a2 : Int32) (a3 : Int64) (a4 : Int64) (a5 : Int64) (h1 : ar a1 2 n1) : den (d + 1) 216 [.ref 46, .ref a1, .int a2, .long a3, .long a4, .long a5] (S sl p I J) = evK (d + 1) 216 4 [.ref 46, .ref a1, .int a2, .long a3, .retAddr 0, .long a4, .retAddr 0, .long a5, .retAddr 0, .retAddr 0] [] (den d 214 [.ref 46] (S sl p I J)) := by
  refine (show den (d + 1) 216 [.ref 46, .ref a1, .int a2, .long a3, .long a4, .long a5] (S sl p I J) = ev (d + 1) 216 0 [.ref 46, .ref a1, .int a2, .long a3, .retAddr 0, .long a4, .retAddr 0, .long a5, .retAddr 0, .retAddr 0] [] (S sl p I J) from rfl).trans ?_
  refine (r_aln (dk D216 0 rfl) rfl).trans ?_
  exact r_cv (dk D216 1 rfl) ow216 c12_263 mf214 (Nat.le_of_ble_eq_true rfl) rfl rfl (Nat.le_of_ble_eq_true rfl) (Nat.le_of_ble_eq_true rfl) ob_46
theorem E216_4 {d sl : Nat} {p : Nat → Nat} {I : Nat → Nat → Int32} {J : Nat → Nat → Int64} {l1 : Nat} {n1 : Nat} (l2 : Int32) (l3 : Int64) (l5 : Int64) (l7 : Int64) (hl1 : ar l1 2 n1) : ev d 216 4 [.ref 46, .ref l1, .int l2, .long l3, .retAddr 0, .long l5, .retAddr 0, .long l7, .retAddr 0, .retAddr 0] [] (S sl p I J) = ev d 216 7 [.ref 46, .ref l1, .int l2, .long l3, .retAddr 0, .long l5, .retAddr 0, .long l7, .retAddr 0, .int 0] [] (S sl p I J) := by
  refine (r_ic (dk D216 2 rfl) ci0).trans ?_
  refine (r_is (L' := [.ref 46, .ref l1, .int l2, .long l3, .retAddr 0, .long l5, .retAddr 0, .long l7, .retAddr 0, .int 0]) (dk D216 3 rfl) (Nat.le_of_ble_eq_true rfl) rfl).trans ?_
  exact rfl
theorem E216_7 {d sl : Nat} {p : Nat → Nat} {I : Nat → Nat → Int32} {J : Nat → Nat → Int64} {l1 : Nat} {n1 : Nat} (l2 : Int32) (l3 : Int64) (l5 : Int64) (l7 : Int64) (l9 : Int32) (hl1 : ar l1 2 n1) : ev (d + 1) 216 7 [.ref 46, .ref l1, .int l2, .long l3, .retAddr 0, .long l5, .retAddr 0, .long l7, .retAddr 0, .int l9] [] (S sl p I J) = (if l9 < (I 46 2) then ck (ixb n1 l9) ((if (I l1 (Int32.toNatClampNeg l9)) = l2 then ck (ixb 60 l9) (ck (ixb 60 l9) (ck (ixb 60 l9) (evK (d + 1) 216 55 [.ref 46, .ref l1, .int l2, .long l3, .retAddr 0, .long l5, .retAddr 0, .long l7, .retAddr 0, .int l9] [.long (Int32.toInt64 (I 56 (Int32.toNatClampNeg l9))), .long (Int32.toInt64 (I 55 (Int32.toNatClampNeg l9))), .long (Int32.toInt64 (I 54 (Int32.toNatClampNeg l9))), .ref 46] (den d 197 [.ref 46, .int l9] (S sl p I J))))) else ev (d + 1) 216 7 [.ref 46, .ref l1, .int l2, .long l3, .retAddr 0, .long l5, .retAddr 0, .long l7, .retAddr 0, .int (l9 + 1)] [] (S sl p I J))) else some (none, (S sl p I J))) := by
  refine (r_il (dk D216 4 rfl) rfl).trans ?_
  refine (r_aln (dk D216 5 rfl) rfl).trans ?_
  refine (r_getI (dk D216 6 rfl) ow216 q12_196 ob_46).trans ?_
  refine (r_ge (dk D216 7 rfl) rfl).trans (ite2 ?_ ?_)
  · refine (r_aln (dk D216 8 rfl) rfl).trans ?_
    refine (r_il (dk D216 9 rfl) rfl).trans ?_
    refine (r_ild (dk D216 10 rfl) hl1).trans (ck3 fun g1 => ?_)
    refine (r_iln (dk D216 11 rfl) rfl).trans ?_
    refine (r_ne (dk D216 12 rfl) rfl).trans (ite2 ?_ ?_)
    · refine (r_aln (dk D216 13 rfl) rfl).trans ?_
      refine (r_aln (dk D216 14 rfl) rfl).trans ?_
      refine (r_getR (dk D216 15 rfl) ow216 q12_50 ob_46 rfl).trans ?_
      refine (r_il (dk D216 16 rfl) rfl).trans ?_
      refine (r_ild (dk D216 17 rfl) ar_54).trans (ck3 fun g2 => ?_)
      refine (r_i2l (dk D216 18 rfl)).trans ?_
      refine (r_aln (dk D216 19 rfl) rfl).trans ?_
      refine (r_getR (dk D216 20 rfl) ow216 q12_53 ob_46 rfl).trans ?_
      refine (r_il (dk D216 21 rfl) rfl).trans ?_
      refine (r_ild (dk D216 22 rfl) ar_55).trans (ck3 fun g3 => ?_)
      refine (r_i2l (dk D216 23 rfl)).trans ?_
      refine (r_aln (dk D216 24 rfl) rfl).trans ?_
      refine (r_getR (dk D216 25 rfl) ow216 q12_56 ob_46 rfl).trans ?_
      refine (r_il (dk D216 26 rfl) rfl).trans ?_
      refine (r_ild (dk D216 27 rfl) ar_56).trans (ck3 fun g4 => ?_)
      refine (r_i2l (dk D216 28 rfl)).trans ?_
      refine (r_aln (dk D216 29 rfl) rfl).trans ?_
      refine (r_il (dk D216 30 rfl) rfl).trans ?_
      exact r_cv (dk D216 31 rfl) ow216 c12_266 mf197 (Nat.le_of_ble_eq_true rfl) rfl rfl (Nat.le_of_ble_eq_true rfl) (Nat.le_of_ble_eq_true rfl) ob_46
    · refine (r_inc (L' := [.ref 46, .ref l1, .int l2, .long l3, .retAddr 0, .long l5, .retAddr 0, .long l7, .retAddr 0, .int (l9 + 1)]) (dk D216 58 rfl) rfl rfl ci1 (Nat.le_of_ble_eq_true rfl) rfl).trans ?_
      refine (r_goto (L' := [.ref 46, .ref l1, .int l2, .long l3, .retAddr 0, .long l5, .retAddr 0, .long l7, .retAddr 0, .int (l9 + 1)]) (dk D216 59 rfl) rfl nd216_7 rfl).trans ?_
      exact rfl
  · exact r_rev (dk D216 60 rfl) rt216
theorem E216_55 {d sl : Nat} {p : Nat → Nat} {I : Nat → Nat → Int32} {J : Nat → Nat → Int64} {l1 : Nat} {n1 : Nat} (l2 : Int32) (l3 : Int64) (l5 : Int64) (l7 : Int64) (l9 : Int32) (s0 : Int32) (s1 : Int64) (s2 : Int64) (s3 : Int64) (hl1 : ar l1 2 n1) : ev (d + 1) 216 55 [.ref 46, .ref l1, .int l2, .long l3, .retAddr 0, .long l5, .retAddr 0, .long l7, .retAddr 0, .int l9] [.int s0, .long s1, .long s2, .long s3, .ref 46] (S sl p I J) = ck (ixb 60 l9) (ck (ixb 60 l9) (ck (ixb 60 l9) (evK (d + 1) 216 87 [.ref 46, .ref l1, .int l2, .long l3, .retAddr 0, .long l5, .retAddr 0, .long l7, .retAddr 0, .int l9] [.int s0, .long s1, .long s2, .long s3, .ref 46] (den d 188 [.long (Int32.toInt64 (I 54 (Int32.toNatClampNeg l9))), .long (Int32.toInt64 (I 55 (Int32.toNatClampNeg l9))), .long (Int32.toInt64 (I 56 (Int32.toNatClampNeg l9))), .long l3, .long l5, .long l7] (S sl p I J))))) := by
  refine (r_aln (dk D216 32 rfl) rfl).trans ?_
  refine (r_getR (dk D216 33 rfl) ow216 q12_50 ob_46 rfl).trans ?_
  refine (r_il (dk D216 34 rfl) rfl).trans ?_
  refine (r_ild (dk D216 35 rfl) ar_54).trans (ck3 fun g1 => ?_)
  refine (r_i2l (dk D216 36 rfl)).trans ?_
  refine (r_aln (dk D216 37 rfl) rfl).trans ?_
  refine (r_getR (dk D216 38 rfl) ow216 q12_53 ob_46 rfl).trans ?_
  refine (r_il (dk D216 39 rfl) rfl).trans ?_
  refine (r_ild (dk D216 40 rfl) ar_55).trans (ck3 fun g2 => ?_)
  refine (r_i2l (dk D216 41 rfl)).trans ?_
  refine (r_aln (dk D216 42 rfl) rfl).trans ?_
  refine (r_getR (dk D216 43 rfl) ow216 q12_56 ob_46 rfl).trans ?_
  refine (r_il (dk D216 44 rfl) rfl).trans ?_
  refine (r_ild (dk D216 45 rfl) ar_56).trans (ck3 fun g3 => ?_)
  refine (r_i2l (dk D216 46 rfl)).trans ?_
  refine (r_lln (dk D216 47 rfl) rfl).trans ?_
  refine (r_ll (dk D216 48 rfl) rfl).trans ?_
  refine (r_ll (dk D216 49 rfl) rfl).trans ?_
  exact r_cs (dk D216 50 rfl) ow216 pn12_136 c12_136 mf188 (Nat.le_of_ble_eq_true rfl) rfl rfl (Nat.le_of_ble_eq_true rfl) (Nat.le_of_ble_eq_true rfl)
theorem E216_87 {d sl : Nat} {p : Nat → Nat} {I : Nat → Nat → Int32} {J : Nat → Nat → Int64} {l1 : Nat} {n1 : Nat} (l2 : Int32) (l3 : Int64) (l5 : Int64) (l7 : Int64) (l9 : Int32) (s0 : Int64) (s1 : Int32) (s2 : Int64) (s3 : Int64) (s4 : Int64) (hl1 : ar l1 2 n1) : ev d 216 87 [.ref 46, .ref l1, .int l2, .long l3, .retAddr 0, .long l5, .retAddr 0, .long l7, .retAddr 0, .int l9] [.long s0, .int s1, .long s2, .long s3, .long s4, .ref 46] (S sl p I J) = (if s0 < 0 then ev d 216 97 [.ref 46, .ref l1, .int l2, .long l3, .retAddr 0, .long l5, .retAddr 0, .long l7, .retAddr 0, .int l9] [.int 1, .int s1, .long s2, .long s3, .long s4, .ref 46] (S sl p I J) else ev d 216 97 [.ref 46, .ref l1, .int l2, .long l3, .retAddr 0, .long l5, .retAddr 0, .long l7, .retAddr 0, .int l9] [.int 0, .int s1, .long s2, .long s3, .long s4, .ref 46] (S sl p I J)) := by
  refine (r_lc (dk D216 51 rfl) cl0).trans ?_
  refine (r_jge (dk D216 52 rfl) (dk D216 53 rfl) rfl).trans (ite2 ?_ ?_)
  · refine (r_ic (dk D216 54 rfl) ci1).trans ?_
    refine (r_goto (L' := [.ref 46, .ref l1, .int l2, .long l3, .retAddr 0, .long l5, .retAddr 0, .long l7, .retAddr 0, .int l9]) (dk D216 55 rfl) rfl nd216_97 rfl).trans ?_
    exact rfl
  · refine (r_ic (dk D216 56 rfl) ci0).trans ?_
    exact rfl
theorem E216_97 {d sl : Nat} {p : Nat → Nat} {I : Nat → Nat → Int32} {J : Nat → Nat → Int64} {l1 : Nat} {n1 : Nat} (l2 : Int32) (l3 : Int64) (l5 : Int64) (l7 : Int64) (l9 : Int32) (s0 : Int32) (s1 : Int32) (s2 : Int64) (s3 : Int64) (s4 : Int64) (hl1 : ar l1 2 n1) : ev (d + 1) 216 97 [.ref 46, .ref l1, .int l2, .long l3, .retAddr 0, .long l5, .retAddr 0, .long l7, .retAddr 0, .int l9] [.int s0, .int s1, .long s2, .long s3, .long s4, .ref 46] (S sl p I J) = evK (d + 1) 216 100 [.ref 46, .ref l1, .int l2, .long l3, .retAddr 0, .long l5, .retAddr 0, .long l7, .retAddr 0, .int l9] [] (den d 215 [.ref 46, .long s4, .long s3, .long s2, .int s1, .int s0] (S sl p I J)) := by
  exact r_cv (dk D216 57 rfl) ow216 c12_269 mf215 (Nat.le_of_ble_eq_true rfl) rfl rfl (Nat.le_of_ble_eq_true rfl) (Nat.le_of_ble_eq_true rfl) ob_46
theorem E216_100 {d sl : Nat} {p : Nat → Nat} {I : Nat → Nat → Int32} {J : Nat → Nat → Int64} {l1 : Nat} {n1 : Nat} (l2 : Int32) (l3 : Int64) (l5 : Int64) (l7 : Int64) (l9 : Int32) (hl1 : ar l1 2 n1) : ev d 216 100 [.ref 46, .ref l1, .int l2, .long l3, .retAddr 0, .long l5, .retAddr 0, .long l7, .retAddr 0, .int l9] [] (S sl p I J) = ev d 216 7 [.ref 46, .ref l1, .int l2, .long l3, .retAddr 0, .long l5, .retAddr 0, .long l7, .retAddr 0, .int (l9 + 1)] [] (S sl p I J) := by
  refine (r_inc (L' := [.ref 46, .ref l1, .int l2, .long l3, .retAddr 0, .long l5, .retAddr 0, .long l7, .retAddr 0, .int (l9 + 1)]) (dk D216 58 rfl) rfl rfl ci1 (Nat.le_of_ble_eq_true rfl) rfl).trans ?_
  refine (r_goto (L' := [.ref 46, .ref l1, .int l2, .long l3, .retAddr 0, .long l5, .retAddr 0, .long l7, .retAddr 0, .int (l9 + 1)]) (dk D216 59 rfl) rfl nd216_7 rfl).trans ?_
  exact rfl
set_option maxRecDepth 20000 in
theorem D217 : dOK 217 [(0, .aload_n 0, 1), (1, .getfield 260, 3), (4, .lconst 0, 1), (5, .lcmp, 1), (6, .ifCond .ne 5, 3), (9, .iconst 0, 1), (10, .ireturn, 1), (11, .aload_n 0, 1), (12, .aload_n 0, 1), (13, .getfield 250, 3), (16, .aload_n 0, 1), (17, .getfield 260, 3), (20, .ldiv, 1), (21, .l2i, 1), (22, .putfield 127, 3), (25, .aload_n 0, 1), (26, .aload_n 0, 1), (27, .getfield 254, 3), (30, .aload_n 0, 1), (31, .getfield 260, 3), (34, .ldiv, 1), (35, .l2i, 1), (36, .putfield 130, 3), (39, .aload_n 0, 1), (40, .aload_n 0, 1), (41, .getfield 257, 3), (44, .aload_n 0, 1), (45, .getfield 260, 3), (48, .ldiv, 1), (49, .l2i, 1), (50, .putfield 133, 3), (53, .aload_n 0, 1), (54, .invokevirtual 273, 3), (57, .aload_n 0, 1), (58, .getfield 127, 3), (61, .ifCond .ne 17, 3), (64, .aload_n 0, 1), (65, .getfield 130, 3), (68, .ifCond .ne 10, 3), (71, .aload_n 0, 1), (72, .getfield 133, 3), (75, .ifCond .eq 7, 3), (78, .iconst 1, 1), (79, .goto 4, 3), (82, .iconst 0, 1), (83, .ireturn, 1)] = true := by decide +kernel
theorem E217_0 {d sl : Nat} {p : Nat → Nat} {I : Nat → Nat → Int32} {J : Nat → Nat → Int64}   : den (d + 1) 217 [.ref 46] (S sl p I J) = (if (J 46 35) = 0 then some (some (.int 0), (S sl p I J)) else ck (!decide ((J 46 35) = 0)) (ck (!decide ((J 46 35) = 0)) (ck (!decide ((J 46 35) = 0)) (evK (d + 1) 217 57 [.ref 46] [] (den d 218 [.ref 46] (S sl p (up2 (up2 (up2 I 46 23 (Int64.toInt32 ((J 46 32) / (J 46 35)))) 46 24 (Int64.toInt32 ((J 46 33) / (J 46 35)))) 46 25 (Int64.toInt32 ((J 46 34) / (J 46 35)))) J)))))) := by
  refine (show den (d + 1) 217 [.ref 46] (S sl p I J) = ev (d + 1) 217 0 [.ref 46] [] (S sl p I J) from rfl).trans ?_
  refine (r_aln (dk D217 0 rfl) rfl).trans ?_
  refine (r_getJ (dk D217 1 rfl) ow217 q12_260 ob_46).trans ?_
  refine (r_lc (dk D217 2 rfl) cl0).trans ?_
  refine (r_jne (dk D217 3 rfl) (dk D217 4 rfl) rfl).trans (ite2 ?_ ?_)
  · refine (r_ic (dk D217 5 rfl) ci0).trans ?_
    exact r_rez (dk D217 6 rfl) rt217 (by decide)
  · refine (r_aln (dk D217 7 rfl) rfl).trans ?_
    refine (r_aln (dk D217 8 rfl) rfl).trans ?_
    refine (r_getJ (dk D217 9 rfl) ow217 q12_250 ob_46).trans ?_
    refine (r_aln (dk D217 10 rfl) rfl).trans ?_
    refine (r_getJ (dk D217 11 rfl) ow217 q12_260 ob_46).trans ?_
    refine (r_ldivc (dk D217 12 rfl)).trans (ck3 fun g1 => ?_)
    refine (r_l2i (dk D217 13 rfl)).trans ?_
    refine (r_putI (dk D217 14 rfl) ow217 w12_127 ob_46).trans ?_
    refine (r_aln (dk D217 15 rfl) rfl).trans ?_
    refine (r_aln (dk D217 16 rfl) rfl).trans ?_
    refine (r_getJ (dk D217 17 rfl) ow217 q12_254 ob_46).trans ?_
    refine (r_aln (dk D217 18 rfl) rfl).trans ?_
    refine (r_getJ (dk D217 19 rfl) ow217 q12_260 ob_46).trans ?_
    refine (r_ldivc (dk D217 20 rfl)).trans (ck3 fun g2 => ?_)
    refine (r_l2i (dk D217 21 rfl)).trans ?_
    refine (r_putI (dk D217 22 rfl) ow217 w12_130 ob_46).trans ?_
    refine (r_aln (dk D217 23 rfl) rfl).trans ?_
    refine (r_aln (dk D217 24 rfl) rfl).trans ?_
    refine (r_getJ (dk D217 25 rfl) ow217 q12_257 ob_46).trans ?_
    refine (r_aln (dk D217 26 rfl) rfl).trans ?_
    refine (r_getJ (dk D217 27 rfl) ow217 q12_260 ob_46).trans ?_
    refine (r_ldivc (dk D217 28 rfl)).trans (ck3 fun g3 => ?_)
    refine (r_l2i (dk D217 29 rfl)).trans ?_
    refine (r_putI (dk D217 30 rfl) ow217 w12_133 ob_46).trans ?_
    refine (r_aln (dk D217 31 rfl) rfl).trans ?_
    exact r_cv (dk D217 32 rfl) ow217 c12_273 mf218 (Nat.le_of_ble_eq_true rfl) rfl rfl (Nat.le_of_ble_eq_true rfl) (Nat.le_of_ble_eq_true rfl) ob_46
theorem E217_57 {d sl : Nat} {p : Nat → Nat} {I : Nat → Nat → Int32} {J : Nat → Nat → Int64}   : ev d 217 57 [.ref 46] [] (S sl p I J) = (if (I 46 23) = 0 then (if (I 46 24) = 0 then (if (I 46 25) = 0 then some (some (.int 0), (S sl p I J)) else some (some (.int 1), (S sl p I J))) else some (some (.int 1), (S sl p I J))) else some (some (.int 1), (S sl p I J))) := by
  refine (r_aln (dk D217 33 rfl) rfl).trans ?_
  refine (r_getI (dk D217 34 rfl) ow217 q12_127 ob_46).trans ?_
  refine (r_ne0 (dk D217 35 rfl) rfl).trans (ite2 ?_ ?_)
  · refine (r_aln (dk D217 36 rfl) rfl).trans ?_
    refine (r_getI (dk D217 37 rfl) ow217 q12_130 ob_46).trans ?_
    refine (r_ne0 (dk D217 38 rfl) rfl).trans (ite2 ?_ ?_)
    · refine (r_aln (dk D217 39 rfl) rfl).trans ?_
      refine (r_getI (dk D217 40 rfl) ow217 q12_133 ob_46).trans ?_
      refine (r_eq0 (dk D217 41 rfl) rfl).trans (ite2 ?_ ?_)
      · refine (r_ic (dk D217 44 rfl) ci0).trans ?_
        exact r_rez (dk D217 45 rfl) rt217 (by decide)
      · refine (r_ic (dk D217 42 rfl) ci1).trans ?_
        refine (r_goto (L' := [.ref 46]) (dk D217 43 rfl) rfl nd217_83 rfl).trans ?_
        exact r_rez (dk D217 45 rfl) rt217 (by decide)
    · refine (r_ic (dk D217 42 rfl) ci1).trans ?_
      refine (r_goto (L' := [.ref 46]) (dk D217 43 rfl) rfl nd217_83 rfl).trans ?_
      exact r_rez (dk D217 45 rfl) rt217 (by decide)
  · refine (r_ic (dk D217 42 rfl) ci1).trans ?_
    refine (r_goto (L' := [.ref 46]) (dk D217 43 rfl) rfl nd217_83 rfl).trans ?_
    exact r_rez (dk D217 45 rfl) rt217 (by decide)
set_option maxRecDepth 20000 in
theorem D218 : dOK 218 [(0, .aload_n 0, 1), (1, .getfield 133, 3), (4, .ifCond .gt 31, 3), (7, .aload_n 0, 1), (8, .getfield 133, 3), (11, .ifCond .ne 25, 3), (14, .aload_n 0, 1), (15, .getfield 130, 3), (18, .ifCond .gt 17, 3), (21, .aload_n 0, 1), (22, .getfield 130, 3), (25, .ifCond .ne 11, 3), (28, .aload_n 0, 1), (29, .getfield 127, 3), (32, .ifCond .lt 4, 3), (35, .return_, 1), (36, .aload_n 0, 1), (37, .aload_n 0, 1), (38, .getfield 127, 3), (41, .ineg, 1), (42, .putfield 127, 3), (45, .aload_n 0, 1), (46, .aload_n 0, 1), (47, .getfield 130, 3), (50, .ineg, 1), (51, .putfield 130, 3), (54, .aload_n 0, 1), (55, .aload_n 0, 1), (56, .getfield 133, 3), (59, .ineg, 1), (60, .putfield 133, 3), (63, .return_, 1)] = true := by decide +kernel
theorem E218_0 {d sl : Nat} {p : Nat → Nat} {I : Nat → Nat → Int32} {J : Nat → Nat → Int64}   : den d 218 [.ref 46] (S sl p I J) = (if (I 46 25) ≤ 0 then (if (I 46 25) = 0 then (if (I 46 24) ≤ 0 then (if (I 46 24) = 0 then (if (I 46 23) < 0 then some (none, (S sl p (up2 (up2 (up2 I 46 23 (-(I 46 23))) 46 24 (-((up2 I 46 23 (-(I 46 23))) 46 24))) 46 25 (-((up2 (up2 I 46 23 (-(I 46 23))) 46 24 (-((up2 I 46 23 (-(I 46 23))) 46 24))) 46 25))) J)) else some (none, (S sl p I J))) else some (none, (S sl p (up2 (up2 (up2 I 46 23 (-(I 46 23))) 46 24 (-((up2 I 46 23 (-(I 46 23))) 46 24))) 46 25 (-((up2 (up2 I 46 23 (-(I 46 23))) 46 24 (-((up2 I 46 23 (-(I 46 23))) 46 24))) 46 25))) J))) else some (none, (S sl p I J))) else some (none, (S sl p (up2 (up2 (up2 I 46 23 (-(I 46 23))) 46 24 (-((up2 I 46 23 (-(I 46 23))) 46 24))) 46 25 (-((up2 (up2 I 46 23 (-(I 46 23))) 46 24 (-((up2 I 46 23 (-(I 46 23))) 46 24))) 46 25))) J))) else some (none, (S sl p I J))) := by
  refine (show den d 218 [.ref 46] (S sl p I J) = ev d 218 0 [.ref 46] [] (S sl p I J) from rfl).trans ?_
  refine (r_aln (dk D218 0 rfl) rfl).trans ?_
  refine (r_getI (dk D218 1 rfl) ow218 q12_133 ob_46).trans ?_
  refine (r_gt0 (dk D218 2 rfl) rfl).trans (ite2 ?_ ?_)
  · refine (r_aln (dk D218 3 rfl) rfl).trans ?_
    refine (r_getI (dk D218 4 rfl) ow218 q12_133 ob_46).trans ?_
    refine (r_ne0 (dk D218 5 rfl) rfl).trans (ite2 ?_ ?_)
    · refine (r_aln (dk D218 6 rfl) rfl).trans ?_
      refine (r_getI (dk D218 7 rfl) ow218 q12_130 ob_46).trans ?_
      refine (r_gt0 (dk D218 8 rfl) rfl).trans (ite2 ?_ ?_)
      · refine (r_aln (dk D218 9 rfl) rfl).trans ?_
        refine (r_getI (dk D218 10 rfl) ow218 q12_130 ob_46).trans ?_
        refine (r_ne0 (dk D218 11 rfl) rfl).trans (ite2 ?_ ?_)
        · refine (r_aln (dk D218 12 rfl) rfl).trans ?_
          refine (r_getI (dk D218 13 rfl) ow218 q12_127 ob_46).trans ?_
          refine (r_lt0 (dk D218 14 rfl) rfl).trans (ite2 ?_ ?_)
          · refine (r_aln (dk D218 16 rfl) rfl).trans ?_
            refine (r_aln (dk D218 17 rfl) rfl).trans ?_
            refine (r_getI (dk D218 18 rfl) ow218 q12_127 ob_46).trans ?_
            refine (r_ineg (dk D218 19 rfl)).trans ?_
            refine (r_putI (dk D218 20 rfl) ow218 w12_127 ob_46).trans ?_
            refine (r_aln (dk D218 21 rfl) rfl).trans ?_
            refine (r_aln (dk D218 22 rfl) rfl).trans ?_
            refine (r_getI (dk D218 23 rfl) ow218 q12_130 ob_46).trans ?_
            refine (r_ineg (dk D218 24 rfl)).trans ?_
            refine (r_putI (dk D218 25 rfl) ow218 w12_130 ob_46).trans ?_
            refine (r_aln (dk D218 26 rfl) rfl).trans ?_
            refine (r_aln (dk D218 27 rfl) rfl).trans ?_
            refine (r_getI (dk D218 28 rfl) ow218 q12_133 ob_46).trans ?_
            refine (r_ineg (dk D218 29 rfl)).trans ?_
            refine (r_putI (dk D218 30 rfl) ow218 w12_133 ob_46).trans ?_
            exact r_rev (dk D218 31 rfl) rt218
          · exact r_rev (dk D218 15 rfl) rt218
        · refine (r_aln (dk D218 16 rfl) rfl).trans ?_
          refine (r_aln (dk D218 17 rfl) rfl).trans ?_
          refine (r_getI (dk D218 18 rfl) ow218 q12_127 ob_46).trans ?_
          refine (r_ineg (dk D218 19 rfl)).trans ?_
          refine (r_putI (dk D218 20 rfl) ow218 w12_127 ob_46).trans ?_
          refine (r_aln (dk D218 21 rfl) rfl).trans ?_
          refine (r_aln (dk D218 22 rfl) rfl).trans ?_
          refine (r_getI (dk D218 23 rfl) ow218 q12_130 ob_46).trans ?_
          refine (r_ineg (dk D218 24 rfl)).trans ?_
          refine (r_putI (dk D218 25 rfl) ow218 w12_130 ob_46).trans ?_
          refine (r_aln (dk D218 26 rfl) rfl).trans ?_
          refine (r_aln (dk D218 27 rfl) rfl).trans ?_
          refine (r_getI (dk D218 28 rfl) ow218 q12_133 ob_46).trans ?_
          refine (r_ineg (dk D218 29 rfl)).trans ?_
          refine (r_putI (dk D218 30 rfl) ow218 w12_133 ob_46).trans ?_
          exact r_rev (dk D218 31 rfl) rt218
      · exact r_rev (dk D218 15 rfl) rt218
    · refine (r_aln (dk D218 16 rfl) rfl).trans ?_
      refine (r_aln (dk D218 17 rfl) rfl).trans ?_
      refine (r_getI (dk D218 18 rfl) ow218 q12_127 ob_46).trans ?_
      refine (r_ineg (dk D218 19 rfl)).trans ?_
      refine (r_putI (dk D218 20 rfl) ow218 w12_127 ob_46).trans ?_
      refine (r_aln (dk D218 21 rfl) rfl).trans ?_
      refine (r_aln (dk D218 22 rfl) rfl).trans ?_
      refine (r_getI (dk D218 23 rfl) ow218 q12_130 ob_46).trans ?_
      refine (r_ineg (dk D218 24 rfl)).trans ?_
      refine (r_putI (dk D218 25 rfl) ow218 w12_130 ob_46).trans ?_
      refine (r_aln (dk D218 26 rfl) rfl).trans ?_
      refine (r_aln (dk D218 27 rfl) rfl).trans ?_
      refine (r_getI (dk D218 28 rfl) ow218 q12_133 ob_46).trans ?_
      refine (r_ineg (dk D218 29 rfl)).trans ?_
      refine (r_putI (dk D218 30 rfl) ow218 w12_133 ob_46).trans ?_
      exact r_rev (dk D218 31 rfl) rt218
  · exact r_rev (dk D218 15 rfl) rt218
set_option maxRecDepth 20000 in
theorem D219 : dOK 219 [(0, .aload_n 0, 1), (1, .iload_n 1, 1), (2, .invokevirtual 276, 3), (5, .istore_n 2, 1), (6, .aload_n 0, 1), (7, .aload_n 0, 1), (8, .getfield 71, 3), (11, .iload_n 1, 1), (12, .aload_n 0, 1), (13, .getfield 50, 3), (16, .iload_n 2, 1), (17, .iaload, 1), (18, .i2l, 1), (19, .aload_n 0, 1), (20, .getfield 53, 3), (23, .iload_n 2, 1), (24, .iaload, 1), (25, .i2l, 1), (26, .aload_n 0, 1), (27, .getfield 56, 3), (30, .iload_n 2, 1), (31, .iaload, 1), (32, .i2l, 1), (33, .invokevirtual 279, 3), (36, .return_, 1)] = true := by decide +kernel
theorem E219_0 {d sl : Nat} {p : Nat → Nat} {I : Nat → Nat → Int32} {J : Nat → Nat → Int64} (a1 : Int32)  : den (d + 1) 219 [.ref 46, .int a1] (S sl p I J) = evK (d + 1) 219 5 [.ref 46, .int a1, .retAddr 0] [] (den d 213 [.ref 46, .int a1] (S sl p I J)) := by
  refine (show den (d + 1) 219 [.ref 46, .int a1] (S sl p I J) = ev (d + 1) 219 0 [.ref 46, .int a1, .retAddr 0] [] (S sl p I J) from rfl).trans ?_
  refine (r_aln (dk D219 0 rfl) rfl).trans ?_
  refine (r_iln (dk D219 1 rfl) rfl).trans ?_
  exact r_cv (dk D219 2 rfl) ow219 c12_276 mf213 (Nat.le_of_ble_eq_true rfl) rfl rfl (Nat.le_of_ble_eq_true rfl) (Nat.le_of_ble_eq_true rfl) ob_46
theorem E219_5 {d sl : Nat} {p : Nat → Nat} {I : Nat → Nat → Int32} {J : Nat → Nat → Int64} (l1 : Int32) (s0 : Int32)  : ev (d + 1) 219 5 [.ref 46, .int l1, .retAddr 0] [.int s0] (S sl p I J) = ck (ixb 60 s0) (ck (ixb 60 s0) (ck (ixb 60 s0) (evK (d + 1) 219 36 [.ref 46, .int l1, .int s0] [] (den d 216 [.ref 46, .ref 61, .int l1, .long (Int32.toInt64 (I 54 (Int32.toNatClampNeg s0))), .long (Int32.toInt64 (I 55 (Int32.toNatClampNeg s0))), .long (Int32.toInt64 (I 56 (Int32.toNatClampNeg s0)))] (S sl p I J))))) := by
  refine (r_isn (L' := [.ref 46, .int l1, .int s0]) (dk D219 3 rfl) (Nat.le_of_ble_eq_true rfl) rfl).trans ?_
  refine (r_aln (dk D219 4 rfl) rfl).trans ?_
  refine (r_aln (dk D219 5 rfl) rfl).trans ?_
  refine (r_getR (dk D219 6 rfl) ow219 q12_71 ob_46 rfl).trans ?_
  refine (r_iln (dk D219 7 rfl) rfl).trans ?_
  refine (r_aln (dk D219 8 rfl) rfl).trans ?_
  refine (r_getR (dk D219 9 rfl) ow219 q12_50 ob_46 rfl).trans ?_
  refine (r_iln (dk D219 10 rfl) rfl).trans ?_
  refine (r_ild (dk D219 11 rfl) ar_54).trans (ck3 fun g1 => ?_)
  refine (r_i2l (dk D219 12 rfl)).trans ?_
  refine (r_aln (dk D219 13 rfl) rfl).trans ?_
  refine (r_getR (dk D219 14 rfl) ow219 q12_53 ob_46 rfl).trans ?_
  refine (r_iln (dk D219 15 rfl) rfl).trans ?_
  refine (r_ild (dk D219 16 rfl) ar_55).trans (ck3 fun g2 => ?_)
  refine (r_i2l (dk D219 17 rfl)).trans ?_
  refine (r_aln (dk D219 18 rfl) rfl).trans ?_
  refine (r_getR (dk D219 19 rfl) ow219 q12_56 ob_46 rfl).trans ?_
  refine (r_iln (dk D219 20 rfl) rfl).trans ?_
  refine (r_ild (dk D219 21 rfl) ar_56).trans (ck3 fun g3 => ?_)
  refine (r_i2l (dk D219 22 rfl)).trans ?_
  exact r_cv (dk D219 23 rfl) ow219 c12_279 mf216 (Nat.le_of_ble_eq_true rfl) rfl rfl (Nat.le_of_ble_eq_true rfl) (Nat.le_of_ble_eq_true rfl) ob_46
theorem E219_36 {d sl : Nat} {p : Nat → Nat} {I : Nat → Nat → Int32} {J : Nat → Nat → Int64} (l1 : Int32) (l2 : Int32)  : ev d 219 36 [.ref 46, .int l1, .int l2] [] (S sl p I J) = some (none, (S sl p I J)) := by
  exact r_rev (dk D219 24 rfl) rt219
set_option maxRecDepth 20000 in
theorem D220 : dOK 220 [(0, .aload_n 0, 1), (1, .iload_n 1, 1), (2, .invokevirtual 283, 3), (5, .aload_n 0, 1), (6, .invokevirtual 287, 3), (9, .ifCond .eq 4, 3), (12, .return_, 1), (13, .aload_n 0, 1), (14, .iload_n 1, 1), (15, .invokevirtual 276, 3), (18, .istore_n 2, 1), (19, .aload_n 0, 1), (20, .aload_n 0, 1), (21, .getfield 50, 3), (24, .iload_n 2, 1), (25, .iaload, 1), (26, .putfield 127, 3), (29, .aload_n 0, 1), (30, .aload_n 0, 1), (31, .getfield 53, 3), (34, .iload_n 2, 1), (35, .iaload, 1), (36, .putfield 130, 3), (39, .aload_n 0, 1), (40, .aload_n 0, 1), (41, .getfield 56, 3), (44, .iload_n 2, 1), (45, .iaload, 1), (46, .putfield 133, 3), (49, .aload_n 0, 1), (50, .invokevirtual 273, 3), (53, .return_, 1)] = true := by decide +kernel
theorem E220_0 {d sl : Nat} {p : Nat → Nat} {I : Nat → Nat → Int32} {J : Nat → Nat → Int64} (a1 : Int32)  : den (d + 1) 220 [.ref 46, .int a1] (S sl p I J) = evK (d + 1) 220 5 [.ref 46, .int a1, .retAddr 0] [] (den d 219 [.ref 46, .int a1] (S sl p I J)) := by
  refine (show den (d + 1) 220 [.ref 46, .int a1] (S sl p I J) = ev (d + 1) 220 0 [.ref 46, .int a1, .retAddr 0] [] (S sl p I J) from rfl).trans ?_
  refine (r_aln (dk D220 0 rfl) rfl).trans ?_
  refine (r_iln (dk D220 1 rfl) rfl).trans ?_
  exact r_cv (dk D220 2 rfl) ow220 c12_283 mf219 (Nat.le_of_ble_eq_true rfl) rfl rfl (Nat.le_of_ble_eq_true rfl) (Nat.le_of_ble_eq_true rfl) ob_46
theorem E220_5 {d sl : Nat} {p : Nat → Nat} {I : Nat → Nat → Int32} {J : Nat → Nat → Int64} (l1 : Int32)  : ev (d + 1) 220 5 [.ref 46, .int l1, .retAddr 0] [] (S sl p I J) = evK (d + 1) 220 9 [.ref 46, .int l1, .retAddr 0] [] (den d 217 [.ref 46] (S sl p I J)) := by
  refine (r_aln (dk D220 3 rfl) rfl).trans ?_
  exact r_cv (dk D220 4 rfl) ow220 c12_287 mf217 (Nat.le_of_ble_eq_true rfl) rfl rfl (Nat.le_of_ble_eq_true rfl) (Nat.le_of_ble_eq_true rfl) ob_46
theorem E220_9 {d sl : Nat} {p : Nat → Nat} {I : Nat → Nat → Int32} {J : Nat → Nat → Int64} (l1 : Int32) (s0 : Int32)  : ev (d + 1) 220 9 [.ref 46, .int l1, .retAddr 0] [.int s0] (S sl p I J) = (if s0 = 0 then evK (d + 1) 220 18 [.ref 46, .int l1, .retAddr 0] [] (den d 213 [.ref 46, .int l1] (S sl p I J)) else some (none, (S sl p I J))) := by
  refine (r_eq0 (dk D220 5 rfl) rfl).trans (ite2 ?_ ?_)
  · refine (r_aln (dk D220 7 rfl) rfl).trans ?_
    refine (r_iln (dk D220 8 rfl) rfl).trans ?_
    exact r_cv (dk D220 9 rfl) ow220 c12_276 mf213 (Nat.le_of_ble_eq_true rfl) rfl rfl (Nat.le_of_ble_eq_true rfl) (Nat.le_of_ble_eq_true rfl) ob_46
  · exact r_rev (dk D220 6 rfl) rt220
theorem E220_18 {d sl : Nat} {p : Nat → Nat} {I : Nat → Nat → Int32} {J : Nat → Nat → Int64} (l1 : Int32) (s0 : Int32)  : ev (d + 1) 220 18 [.ref 46, .int l1, .retAddr 0] [.int s0] (S sl p I J) = ck (ixb 60 s0) (ck (ixb 60 s0) (ck (ixb 60 s0) (evK (d + 1) 220 53 [.ref 46, .int l1, .int s0] [] (den d 218 [.ref 46] (S sl p (up2 (up2 (up2 I 46 23 (I 54 (Int32.toNatClampNeg s0))) 46 24 ((up2 I 46 23 (I 54 (Int32.toNatClampNeg s0))) 55 (Int32.toNatClampNeg s0))) 46 25 ((up2 (up2 I 46 23 (I 54 (Int32.toNatClampNeg s0))) 46 24 ((up2 I 46 23 (I 54 (Int32.toNatClampNeg s0))) 55 (Int32.toNatClampNeg s0))) 56 (Int32.toNatClampNeg s0))) J))))) := by
  refine (r_isn (L' := [.ref 46, .int l1, .int s0]) (dk D220 10 rfl) (Nat.le_of_ble_eq_true rfl) rfl).trans ?_
  refine (r_aln (dk D220 11 rfl) rfl).trans ?_
  refine (r_aln (dk D220 12 rfl) rfl).trans ?_
  refine (r_getR (dk D220 13 rfl) ow220 q12_50 ob_46 rfl).trans ?_
  refine (r_iln (dk D220 14 rfl) rfl).trans ?_
  refine (r_ild (dk D220 15 rfl) ar_54).trans (ck3 fun g1 => ?_)
  refine (r_putI (dk D220 16 rfl) ow220 w12_127 ob_46).trans ?_
  refine (r_aln (dk D220 17 rfl) rfl).trans ?_
  refine (r_aln (dk D220 18 rfl) rfl).trans ?_
  refine (r_getR (dk D220 19 rfl) ow220 q12_53 ob_46 rfl).trans ?_
  refine (r_iln (dk D220 20 rfl) rfl).trans ?_
  refine (r_ild (dk D220 21 rfl) ar_55).trans (ck3 fun g2 => ?_)
  refine (r_putI (dk D220 22 rfl) ow220 w12_130 ob_46).trans ?_
  refine (r_aln (dk D220 23 rfl) rfl).trans ?_
  refine (r_aln (dk D220 24 rfl) rfl).trans ?_
  refine (r_getR (dk D220 25 rfl) ow220 q12_56 ob_46 rfl).trans ?_
  refine (r_iln (dk D220 26 rfl) rfl).trans ?_
  refine (r_ild (dk D220 27 rfl) ar_56).trans (ck3 fun g3 => ?_)
  refine (r_putI (dk D220 28 rfl) ow220 w12_133 ob_46).trans ?_
  refine (r_aln (dk D220 29 rfl) rfl).trans ?_
  exact r_cv (dk D220 30 rfl) ow220 c12_273 mf218 (Nat.le_of_ble_eq_true rfl) rfl rfl (Nat.le_of_ble_eq_true rfl) (Nat.le_of_ble_eq_true rfl) ob_46
theorem E220_53 {d sl : Nat} {p : Nat → Nat} {I : Nat → Nat → Int32} {J : Nat → Nat → Int64} (l1 : Int32) (l2 : Int32)  : ev d 220 53 [.ref 46, .int l1, .int l2] [] (S sl p I J) = some (none, (S sl p I J)) := by
  exact r_rev (dk D220 31 rfl) rt220
set_option maxRecDepth 20000 in
theorem D221 : dOK 221 [(0, .aload_n 0, 1), (1, .invokevirtual 216, 3), (4, .iconst 0, 1), (5, .istore_n 1, 1), (6, .iload_n 1, 1), (7, .aload_n 0, 1), (8, .getfield 244, 3), (11, .if_icmp .ge 44, 3), (14, .aload_n 0, 1), (15, .iload_n 1, 1), (16, .invokevirtual 291, 3), (19, .aload_n 0, 1), (20, .getfield 80, 3), (23, .iload_n 1, 1), (24, .aload_n 0, 1), (25, .getfield 127, 3), (28, .iastore, 1), (29, .aload_n 0, 1), (30, .getfield 83, 3), (33, .iload_n 1, 1), (34, .aload_n 0, 1), (35, .getfield 130, 3), (38, .iastore, 1), (39, .aload_n 0, 1), (40, .getfield 86, 3), (43, .iload_n 1, 1), (44, .aload_n 0, 1), (45, .getfield 133, 3), (48, .iastore, 1), (49, .iinc 1 1, 3), (52, .goto (-46), 3), (55, .return_, 1)] = true := by decide +kernel
theorem E221_0 {d sl : Nat} {p : Nat → Nat} {I : Nat → Nat → Int32} {J : Nat → Nat → Int64}   : den (d + 1) 221 [.ref 46] (S sl p I J) = evK (d + 1) 221 4 [.ref 46, .retAddr 0] [] (den d 210 [.ref 46] (S sl p I J)) := by
  refine (show den (d + 1) 221 [.ref 46] (S sl p I J) = ev (d + 1) 221 0 [.ref 46, .retAddr 0] [] (S sl p I J) from rfl).trans ?_
  refine (r_aln (dk D221 0 rfl) rfl).trans ?_
  exact r_cv (dk D221 1 rfl) ow221 c12_216 mf210 (Nat.le_of_ble_eq_true rfl) rfl rfl (Nat.le_of_ble_eq_true rfl) (Nat.le_of_ble_eq_true rfl) ob_46
theorem E221_4 {d sl : Nat} {p : Nat → Nat} {I : Nat → Nat → Int32} {J : Nat → Nat → Int64}   : ev d 221 4 [.ref 46, .retAddr 0] [] (S sl p I J) = ev d 221 6 [.ref 46, .int 0] [] (S sl p I J) := by
  refine (r_ic (dk D221 2 rfl) ci0).trans ?_
  refine (r_isn (L' := [.ref 46, .int 0]) (dk D221 3 rfl) (Nat.le_of_ble_eq_true rfl) rfl).trans ?_
  exact rfl
theorem E221_6 {d sl : Nat} {p : Nat → Nat} {I : Nat → Nat → Int32} {J : Nat → Nat → Int64} (l1 : Int32)  : ev (d + 1) 221 6 [.ref 46, .int l1] [] (S sl p I J) = (if l1 < (I 46 31) then evK (d + 1) 221 19 [.ref 46, .int l1] [] (den d 220 [.ref 46, .int l1] (S sl p I J)) else some (none, (S sl p I J))) := by
  refine (r_iln (dk D221 4 rfl) rfl).trans ?_
  refine (r_aln (dk D221 5 rfl) rfl).trans ?_
  refine (r_getI (dk D221 6 rfl) ow221 q12_244 ob_46).trans ?_
  refine (r_ge (dk D221 7 rfl) rfl).trans (ite2 ?_ ?_)
  · refine (r_aln (dk D221 8 rfl) rfl).trans ?_
    refine (r_iln (dk D221 9 rfl) rfl).trans ?_
    exact r_cv (dk D221 10 rfl) ow221 c12_291 mf220 (Nat.le_of_ble_eq_true rfl) rfl rfl (Nat.le_of_ble_eq_true rfl) (Nat.le_of_ble_eq_true rfl) ob_46
  · exact r_rev (dk D221 31 rfl) rt221
theorem E221_19 {d sl : Nat} {p : Nat → Nat} {I : Nat → Nat → Int32} {J : Nat → Nat → Int64} (l1 : Int32)  : ev d 221 19 [.ref 46, .int l1] [] (S sl p I J) = ck (ixb 30 l1) (ck (ixb 30 l1) (ck (ixb 30 l1) (ev d 221 6 [.ref 46, .int (l1 + 1)] [] (S sl p (up2 (up2 (up2 I 64 (Int32.toNatClampNeg l1) (I 46 23)) 65 (Int32.toNatClampNeg l1) ((up2 I 64 (Int32.toNatClampNeg l1) (I 46 23)) 46 24)) 66 (Int32.toNatClampNeg l1) ((up2 (up2 I 64 (Int32.toNatClampNeg l1) (I 46 23)) 65 (Int32.toNatClampNeg l1) ((up2 I 64 (Int32.toNatClampNeg l1) (I 46 23)) 46 24)) 46 25)) J)))) := by
  refine (r_aln (dk D221 11 rfl) rfl).trans ?_
  refine (r_getR (dk D221 12 rfl) ow221 q12_80 ob_46 rfl).trans ?_
  refine (r_iln (dk D221 13 rfl) rfl).trans ?_
  refine (r_aln (dk D221 14 rfl) rfl).trans ?_
  refine (r_getI (dk D221 15 rfl) ow221 q12_127 ob_46).trans ?_
  refine (r_ist (dk D221 16 rfl) ar_64).trans (ck3 fun g1 => ?_)
  refine (r_aln (dk D221 17 rfl) rfl).trans ?_
  refine (r_getR (dk D221 18 rfl) ow221 q12_83 ob_46 rfl).trans ?_
  refine (r_iln (dk D221 19 rfl) rfl).trans ?_
  refine (r_aln (dk D221 20 rfl) rfl).trans ?_
  refine (r_getI (dk D221 21 rfl) ow221 q12_130 ob_46).trans ?_
  refine (r_ist (dk D221 22 rfl) ar_65).trans (ck3 fun g2 => ?_)
  refine (r_aln (dk D221 23 rfl) rfl).trans ?_
  refine (r_getR (dk D221 24 rfl) ow221 q12_86 ob_46 rfl).trans ?_
  refine (r_iln (dk D221 25 rfl) rfl).trans ?_
  refine (r_aln (dk D221 26 rfl) rfl).trans ?_
  refine (r_getI (dk D221 27 rfl) ow221 q12_133 ob_46).trans ?_
  refine (r_ist (dk D221 28 rfl) ar_66).trans (ck3 fun g3 => ?_)
  refine (r_inc (L' := [.ref 46, .int (l1 + 1)]) (dk D221 29 rfl) rfl rfl ci1 (Nat.le_of_ble_eq_true rfl) rfl).trans ?_
  refine (r_goto (L' := [.ref 46, .int (l1 + 1)]) (dk D221 30 rfl) rfl nd221_6 rfl).trans ?_
  exact rfl
set_option maxRecDepth 20000 in
theorem D222 : dOK 222 [(0, .aload_n 0, 1), (1, .aload_n 0, 1), (2, .getfield 80, 3), (5, .iload_n 1, 1), (6, .iaload, 1), (7, .putfield 127, 3), (10, .aload_n 0, 1), (11, .aload_n 0, 1), (12, .getfield 83, 3), (15, .iload_n 1, 1), (16, .iaload, 1), (17, .putfield 130, 3), (20, .aload_n 0, 1), (21, .aload_n 0, 1), (22, .getfield 86, 3), (25, .iload_n 1, 1), (26, .iaload, 1), (27, .putfield 133, 3), (30, .return_, 1)] = true := by decide +kernel
theorem E222_0 {d sl : Nat} {p : Nat → Nat} {I : Nat → Nat → Int32} {J : Nat → Nat → Int64} (a1 : Int32)  : den d 222 [.ref 46, .int a1] (S sl p I J) = ck (ixb 30 a1) (ck (ixb 30 a1) (ck (ixb 30 a1) (some (none, (S sl p (up2 (up2 (up2 I 46 23 (I 64 (Int32.toNatClampNeg a1))) 46 24 ((up2 I 46 23 (I 64 (Int32.toNatClampNeg a1))) 65 (Int32.toNatClampNeg a1))) 46 25 ((up2 (up2 I 46 23 (I 64 (Int32.toNatClampNeg a1))) 46 24 ((up2 I 46 23 (I 64 (Int32.toNatClampNeg a1))) 65 (Int32.toNatClampNeg a1))) 66 (Int32.toNatClampNeg a1))) J))))) := by
  refine (show den d 222 [.ref 46, .int a1] (S sl p I J) = ev d 222 0 [.ref 46, .int a1] [] (S sl p I J) from rfl).trans ?_
  refine (r_aln (dk D222 0 rfl) rfl).trans ?_
  refine (r_aln (dk D222 1 rfl) rfl).trans ?_
  refine (r_getR (dk D222 2 rfl) ow222 q12_80 ob_46 rfl).trans ?_
  refine (r_iln (dk D222 3 rfl) rfl).trans ?_
  refine (r_ild (dk D222 4 rfl) ar_64).trans (ck3 fun g1 => ?_)
  refine (r_putI (dk D222 5 rfl) ow222 w12_127 ob_46).trans ?_
  refine (r_aln (dk D222 6 rfl) rfl).trans ?_
  refine (r_aln (dk D222 7 rfl) rfl).trans ?_
  refine (r_getR (dk D222 8 rfl) ow222 q12_83 ob_46 rfl).trans ?_
  refine (r_iln (dk D222 9 rfl) rfl).trans ?_
  refine (r_ild (dk D222 10 rfl) ar_65).trans (ck3 fun g2 => ?_)
  refine (r_putI (dk D222 11 rfl) ow222 w12_130 ob_46).trans ?_
  refine (r_aln (dk D222 12 rfl) rfl).trans ?_
  refine (r_aln (dk D222 13 rfl) rfl).trans ?_
  refine (r_getR (dk D222 14 rfl) ow222 q12_86 ob_46 rfl).trans ?_
  refine (r_iln (dk D222 15 rfl) rfl).trans ?_
  refine (r_ild (dk D222 16 rfl) ar_66).trans (ck3 fun g3 => ?_)
  refine (r_putI (dk D222 17 rfl) ow222 w12_133 ob_46).trans ?_
  exact r_rev (dk D222 18 rfl) rt222
set_option maxRecDepth 20000 in
theorem D223 : dOK 223 [(0, .iconst 0, 1), (1, .istore_n 1, 1), (2, .iconst 1, 1), (3, .istore_n 2, 1), (4, .iload_n 2, 1), (5, .sipush 360, 3), (8, .if_icmp .ge 56, 3), (11, .aload_n 0, 1), (12, .getfield 127, 3), (15, .iload_n 2, 1), (16, .invokestatic 124, 3), (19, .imul, 1), (20, .aload_n 0, 1), (21, .getfield 130, 3), (24, .iload_n 2, 1), (25, .invokestatic 111, 3), (28, .imul, 1), (29, .iadd, 1), (30, .aload_n 0, 1), (31, .getfield 127, 3), (34, .iload_n 1, 1), (35, .invokestatic 124, 3), (38, .imul, 1), (39, .aload_n 0, 1), (40, .getfield 130, 3), (43, .iload_n 1, 1), (44, .invokestatic 111, 3), (47, .imul, 1), (48, .iadd, 1), (49, .if_icmp .le 7, 3), (52, .iload_n 2, 1), (53, .goto 4, 3), (56, .iload_n 1, 1), (57, .istore_n 1, 1), (58, .iinc 2 1, 3), (61, .goto (-57), 3), (64, .iload_n 1, 1), (65, .ireturn, 1)] = true := by decide +kernel
theorem E223_0 {d sl : Nat} {p : Nat → Nat} {I : Nat → Nat → Int32} {J : Nat → Nat → Int64}   : den d 223 [.ref 46] (S sl p I J) = ev d 223 4 [.ref 46, .int 0, .int 1] [] (S sl p I J) := by
  refine (show den d 223 [.ref 46] (S sl p I J) = ev d 223 0 [.ref 46, .retAddr 0, .retAddr 0] [] (S sl p I J) from rfl).trans ?_
  refine (r_ic (dk D223 0 rfl) ci0).trans ?_
  refine (r_isn (L' := [.ref 46, .int 0, .retAddr 0]) (dk D223 1 rfl) (Nat.le_of_ble_eq_true rfl) rfl).trans ?_
  refine (r_ic (dk D223 2 rfl) ci1).trans ?_
  refine (r_isn (L' := [.ref 46, .int 0, .int 1]) (dk D223 3 rfl) (Nat.le_of_ble_eq_true rfl) rfl).trans ?_
  exact rfl
theorem E223_4 {d sl : Nat} {p : Nat → Nat} {I : Nat → Nat → Int32} {J : Nat → Nat → Int64} (l1 : Int32) (l2 : Int32)  : ev (d + 1) 223 4 [.ref 46, .int l1, .int l2] [] (S sl p I J) = (if l2 < 360 then evK (d + 1) 223 19 [.ref 46, .int l1, .int l2] [.int (I 46 23)] (den d 183 [.int l2] (S sl p I J)) else some (some (.int l1), (S sl p I J))) := by
  refine (r_iln (dk D223 4 rfl) rfl).trans ?_
  refine (r_sp (dk D223 5 rfl) cs360).trans ?_
  refine (r_ge (dk D223 6 rfl) rfl).trans (ite2 ?_ ?_)
  · refine (r_aln (dk D223 7 rfl) rfl).trans ?_
    refine (r_getI (dk D223 8 rfl) ow223 q12_127 ob_46).trans ?_
    refine (r_iln (dk D223 9 rfl) rfl).trans ?_
    exact r_cs (dk D223 10 rfl) ow223 pn12_124 c12_124 mf183 (Nat.le_of_ble_eq_true rfl) rfl rfl (Nat.le_of_ble_eq_true rfl) (Nat.le_of_ble_eq_true rfl)
  · refine (r_iln (dk D223 36 rfl) rfl).trans ?_
    exact r_ret (dk D223 37 rfl) rt223
theorem E223_19 {d sl : Nat} {p : Nat → Nat} {I : Nat → Nat → Int32} {J : Nat → Nat → Int64} (l1 : Int32) (l2 : Int32) (s0 : Int32) (s1 : Int32)  : ev (d + 1) 223 19 [.ref 46, .int l1, .int l2] [.int s0, .int s1] (S sl p I J) = evK (d + 1) 223 28 [.ref 46, .int l1, .int l2] [.int (I 46 24), .int (s1 * s0)] (den d 182 [.int l2] (S sl p I J)) := by
  refine (r_imul (dk D223 11 rfl)).trans ?_
  refine (r_aln (dk D223 12 rfl) rfl).trans ?_
  refine (r_getI (dk D223 13 rfl) ow223 q12_130 ob_46).trans ?_
  refine (r_iln (dk D223 14 rfl) rfl).trans ?_
  exact r_cs (dk D223 15 rfl) ow223 pn12_111 c12_111 mf182 (Nat.le_of_ble_eq_true rfl) rfl rfl (Nat.le_of_ble_eq_true rfl) (Nat.le_of_ble_eq_true rfl)
theorem E223_28 {d sl : Nat} {p : Nat → Nat} {I : Nat → Nat → Int32} {J : Nat → Nat → Int64} (l1 : Int32) (l2 : Int32) (s0 : Int32) (s1 : Int32) (s2 : Int32)  : ev (d + 1) 223 28 [.ref 46, .int l1, .int l2] [.int s0, .int s1, .int s2] (S sl p I J) = evK (d + 1) 223 38 [.ref 46, .int l1, .int l2] [.int (I 46 23), .int (s2 + (s1 * s0))] (den d 183 [.int l1] (S sl p I J)) := by
  refine (r_imul (dk D223 16 rfl)).trans ?_
  refine (r_iadd (dk D223 17 rfl)).trans ?_
  refine (r_aln (dk D223 18 rfl) rfl).trans ?_
  refine (r_getI (dk D223 19 rfl) ow223 q12_127 ob_46).trans ?_
  refine (r_iln (dk D223 20 rfl) rfl).trans ?_
  exact r_cs (dk D223 21 rfl) ow223 pn12_124 c12_124 mf183 (Nat.le_of_ble_eq_true rfl) rfl rfl (Nat.le_of_ble_eq_true rfl) (Nat.le_of_ble_eq_true rfl)
theorem E223_38 {d sl : Nat} {p : Nat → Nat} {I : Nat → Nat → Int32} {J : Nat → Nat → Int64} (l1 : Int32) (l2 : Int32) (s0 : Int32) (s1 : Int32) (s2 : Int32)  : ev (d + 1) 223 38 [.ref 46, .int l1, .int l2] [.int s0, .int s1, .int s2] (S sl p I J) = evK (d + 1) 223 47 [.ref 46, .int l1, .int l2] [.int (I 46 24), .int (s1 * s0), .int s2] (den d 182 [.int l1] (S sl p I J)) := by
  refine (r_imul (dk D223 22 rfl)).trans ?_
  refine (r_aln (dk D223 23 rfl) rfl).trans ?_
  refine (r_getI (dk D223 24 rfl) ow223 q12_130 ob_46).trans ?_
  refine (r_iln (dk D223 25 rfl) rfl).trans ?_
  exact r_cs (dk D223 26 rfl) ow223 pn12_111 c12_111 mf182 (Nat.le_of_ble_eq_true rfl) rfl rfl (Nat.le_of_ble_eq_true rfl) (Nat.le_of_ble_eq_true rfl)
theorem E223_47 {d sl : Nat} {p : Nat → Nat} {I : Nat → Nat → Int32} {J : Nat → Nat → Int64} (l1 : Int32) (l2 : Int32) (s0 : Int32) (s1 : Int32) (s2 : Int32) (s3 : Int32)  : ev d 223 47 [.ref 46, .int l1, .int l2] [.int s0, .int s1, .int s2, .int s3] (S sl p I J) = (if s3 ≤ (s2 + (s1 * s0)) then ev d 223 4 [.ref 46, .int l1, .int (l2 + 1)] [] (S sl p I J) else ev d 223 4 [.ref 46, .int l2, .int (l2 + 1)] [] (S sl p I J)) := by
  refine (r_imul (dk D223 27 rfl)).trans ?_
  refine (r_iadd (dk D223 28 rfl)).trans ?_
  refine (r_le (dk D223 29 rfl) rfl).trans (ite2 ?_ ?_)
  · refine (r_iln (dk D223 32 rfl) rfl).trans ?_
    refine (r_isn (L' := [.ref 46, .int l1, .int l2]) (dk D223 33 rfl) (Nat.le_of_ble_eq_true rfl) rfl).trans ?_
    refine (r_inc (L' := [.ref 46, .int l1, .int (l2 + 1)]) (dk D223 34 rfl) rfl rfl ci1 (Nat.le_of_ble_eq_true rfl) rfl).trans ?_
    refine (r_goto (L' := [.ref 46, .int l1, .int (l2 + 1)]) (dk D223 35 rfl) rfl nd223_4 rfl).trans ?_
    exact rfl
  · refine (r_iln (dk D223 30 rfl) rfl).trans ?_
    refine (r_goto (L' := [.ref 46, .int l1, .int l2]) (dk D223 31 rfl) rfl nd223_57 rfl).trans ?_
    refine (r_isn (L' := [.ref 46, .int l2, .int l2]) (dk D223 33 rfl) (Nat.le_of_ble_eq_true rfl) rfl).trans ?_
    refine (r_inc (L' := [.ref 46, .int l2, .int (l2 + 1)]) (dk D223 34 rfl) rfl rfl ci1 (Nat.le_of_ble_eq_true rfl) rfl).trans ?_
    refine (r_goto (L' := [.ref 46, .int l2, .int (l2 + 1)]) (dk D223 35 rfl) rfl nd223_4 rfl).trans ?_
    exact rfl
set_option maxRecDepth 20000 in
theorem D224 : dOK 224 [(0, .aload_n 0, 1), (1, .getfield 127, 3), (4, .iload_n 1, 1), (5, .invokestatic 124, 3), (8, .imul, 1), (9, .aload_n 0, 1), (10, .getfield 130, 3), (13, .iload_n 1, 1), (14, .invokestatic 111, 3), (17, .imul, 1), (18, .iadd, 1), (19, .sipush 1000, 3), (22, .idiv, 1), (23, .ireturn, 1)] = true := by decide +kernel
theorem E224_0 {d sl : Nat} {p : Nat → Nat} {I : Nat → Nat → Int32} {J : Nat → Nat → Int64} (a1 : Int32)  : den (d + 1) 224 [.ref 46, .int a1] (S sl p I J) = evK (d + 1) 224 8 [.ref 46, .int a1] [.int (I 46 23)] (den d 183 [.int a1] (S sl p I J)) := by
  refine (show den (d + 1) 224 [.ref 46, .int a1] (S sl p I J) = ev (d + 1) 224 0 [.ref 46, .int a1] [] (S sl p I J) from rfl).trans ?_
  refine (r_aln (dk D224 0 rfl) rfl).trans ?_
  refine (r_getI (dk D224 1 rfl) ow224 q12_127 ob_46).trans ?_
  refine (r_iln (dk D224 2 rfl) rfl).trans ?_
  exact r_cs (dk D224 3 rfl) ow224 pn12_124 c12_124 mf183 (Nat.le_of_ble_eq_true rfl) rfl rfl (Nat.le_of_ble_eq_true rfl) (Nat.le_of_ble_eq_true rfl)
theorem E224_8 {d sl : Nat} {p : Nat → Nat} {I : Nat → Nat → Int32} {J : Nat → Nat → Int64} (l1 : Int32) (s0 : Int32) (s1 : Int32)  : ev (d + 1) 224 8 [.ref 46, .int l1] [.int s0, .int s1] (S sl p I J) = evK (d + 1) 224 17 [.ref 46, .int l1] [.int (I 46 24), .int (s1 * s0)] (den d 182 [.int l1] (S sl p I J)) := by
  refine (r_imul (dk D224 4 rfl)).trans ?_
  refine (r_aln (dk D224 5 rfl) rfl).trans ?_
  refine (r_getI (dk D224 6 rfl) ow224 q12_130 ob_46).trans ?_
  refine (r_iln (dk D224 7 rfl) rfl).trans ?_
  exact r_cs (dk D224 8 rfl) ow224 pn12_111 c12_111 mf182 (Nat.le_of_ble_eq_true rfl) rfl rfl (Nat.le_of_ble_eq_true rfl) (Nat.le_of_ble_eq_true rfl)
theorem E224_17 {d sl : Nat} {p : Nat → Nat} {I : Nat → Nat → Int32} {J : Nat → Nat → Int64} (l1 : Int32) (s0 : Int32) (s1 : Int32) (s2 : Int32)  : ev d 224 17 [.ref 46, .int l1] [.int s0, .int s1, .int s2] (S sl p I J) = some (some (.int ((s2 + (s1 * s0)) / 1000)), (S sl p I J)) := by
  refine (r_imul (dk D224 9 rfl)).trans ?_
  refine (r_iadd (dk D224 10 rfl)).trans ?_
  refine (r_sp (dk D224 11 rfl) cs1000).trans ?_
  refine (r_idiv (dk D224 12 rfl) (by decide)).trans ?_
  exact r_ret (dk D224 13 rfl) rt224
set_option maxRecDepth 20000 in
theorem D225 : dOK 225 [(0, .aload_n 0, 1), (1, .aload_n 0, 1), (2, .invokevirtual 294, 3), (5, .invokevirtual 297, 3), (8, .istore_n 1, 1), (9, .iconst 0, 1), (10, .istore_n 2, 1), (11, .iconst 1, 1), (12, .istore_n 3, 1), (13, .iload_n 3, 1), (14, .bipush 90, 2), (16, .if_icmp .gt 50, 3), (19, .iload_n 1, 1), (20, .iload_n 3, 1), (21, .invokestatic 111, 3), (24, .imul, 1), (25, .aload_n 0, 1), (26, .getfield 133, 3), (29, .iload_n 3, 1), (30, .invokestatic 124, 3), (33, .imul, 1), (34, .iadd, 1), (35, .iload_n 1, 1), (36, .iload_n 2, 1), (37, .invokestatic 111, 3), (40, .imul, 1), (41, .aload_n 0, 1), (42, .getfield 133, 3), (45, .iload_n 2, 1), (46, .invokestatic 124, 3), (49, .imul, 1), (50, .iadd, 1), (51, .if_icmp .le 7, 3), (54, .iload_n 3, 1), (55, .goto 4, 3), (58, .iload_n 2, 1), (59, .istore_n 2, 1), (60, .iinc 3 1, 3), (63, .goto (-50), 3), (66, .iload_n 2, 1), (67, .ireturn, 1)] = true := by decide +kernel
theorem E225_0 {d sl : Nat} {p : Nat → Nat} {I : Nat → Nat → Int32} {J : Nat → Nat → Int64}   : den (d + 1) 225 [.ref 46] (S sl p I J) = evK (d + 1) 225 5 [.ref 46, .retAddr 0, .retAddr 0, .retAddr 0] [.ref 46] (den d 223 [.ref 46] (S sl p I J)) := by
  refine (show den (d + 1) 225 [.ref 46] (S sl p I J) = ev (d + 1) 225 0 [.ref 46, .retAddr 0, .retAddr 0, .retAddr 0] [] (S sl p I J) from rfl).trans ?_
  refine (r_aln (dk D225 0 rfl) rfl).trans ?_
  refine (r_aln (dk D225 1 rfl) rfl).trans ?_
  exact r_cv (dk D225 2 rfl) ow225 c12_294 mf223 (Nat.le_of_ble_eq_true rfl) rfl rfl (Nat.le_of_ble_eq_true rfl) (Nat.le_of_ble_eq_true rfl) ob_46
theorem E225_5 {d sl : Nat} {p : Nat → Nat} {I : Nat → Nat → Int32} {J : Nat → Nat → Int64} (s0 : Int32)  : ev (d + 1) 225 5 [.ref 46, .retAddr 0, .retAddr 0, .retAddr 0] [.int s0, .ref 46] (S sl p I J) = evK (d + 1) 225 8 [.ref 46, .retAddr 0, .retAddr 0, .retAddr 0] [] (den d 224 [.ref 46, .int s0] (S sl p I J)) := by
  exact r_cv (dk D225 3 rfl) ow225 c12_297 mf224 (Nat.le_of_ble_eq_true rfl) rfl rfl (Nat.le_of_ble_eq_true rfl) (Nat.le_of_ble_eq_true rfl) ob_46
theorem E225_8 {d sl : Nat} {p : Nat → Nat} {I : Nat → Nat → Int32} {J : Nat → Nat → Int64} (s0 : Int32)  : ev d 225 8 [.ref 46, .retAddr 0, .retAddr 0, .retAddr 0] [.int s0] (S sl p I J) = ev d 225 13 [.ref 46, .int s0, .int 0, .int 1] [] (S sl p I J) := by
  refine (r_isn (L' := [.ref 46, .int s0, .retAddr 0, .retAddr 0]) (dk D225 4 rfl) (Nat.le_of_ble_eq_true rfl) rfl).trans ?_
  refine (r_ic (dk D225 5 rfl) ci0).trans ?_
  refine (r_isn (L' := [.ref 46, .int s0, .int 0, .retAddr 0]) (dk D225 6 rfl) (Nat.le_of_ble_eq_true rfl) rfl).trans ?_
  refine (r_ic (dk D225 7 rfl) ci1).trans ?_
  refine (r_isn (L' := [.ref 46, .int s0, .int 0, .int 1]) (dk D225 8 rfl) (Nat.le_of_ble_eq_true rfl) rfl).trans ?_
  exact rfl
theorem E225_13 {d sl : Nat} {p : Nat → Nat} {I : Nat → Nat → Int32} {J : Nat → Nat → Int64} (l1 : Int32) (l2 : Int32) (l3 : Int32)  : ev (d + 1) 225 13 [.ref 46, .int l1, .int l2, .int l3] [] (S sl p I J) = (if l3 ≤ 90 then evK (d + 1) 225 24 [.ref 46, .int l1, .int l2, .int l3] [.int l1] (den d 182 [.int l3] (S sl p I J)) else some (some (.int l2), (S sl p I J))) := by
  refine (r_iln (dk D225 9 rfl) rfl).trans ?_
  refine (r_bp (dk D225 10 rfl) cb90).trans ?_
  refine (r_gt (dk D225 11 rfl) rfl).trans (ite2 ?_ ?_)
  · refine (r_iln (dk D225 12 rfl) rfl).trans ?_
    refine (r_iln (dk D225 13 rfl) rfl).trans ?_
    exact r_cs (dk D225 14 rfl) ow225 pn12_111 c12_111 mf182 (Nat.le_of_ble_eq_true rfl) rfl rfl (Nat.le_of_ble_eq_true rfl) (Nat.le_of_ble_eq_true rfl)
  · refine (r_iln (dk D225 39 rfl) rfl).trans ?_
    exact r_ret (dk D225 40 rfl) rt225
theorem E225_24 {d sl : Nat} {p : Nat → Nat} {I : Nat → Nat → Int32} {J : Nat → Nat → Int64} (l1 : Int32) (l2 : Int32) (l3 : Int32) (s0 : Int32) (s1 : Int32)  : ev (d + 1) 225 24 [.ref 46, .int l1, .int l2, .int l3] [.int s0, .int s1] (S sl p I J) = evK (d + 1) 225 33 [.ref 46, .int l1, .int l2, .int l3] [.int (I 46 25), .int (s1 * s0)] (den d 183 [.int l3] (S sl p I J)) := by
  refine (r_imul (dk D225 15 rfl)).trans ?_
  refine (r_aln (dk D225 16 rfl) rfl).trans ?_
  refine (r_getI (dk D225 17 rfl) ow225 q12_133 ob_46).trans ?_
  refine (r_iln (dk D225 18 rfl) rfl).trans ?_
  exact r_cs (dk D225 19 rfl) ow225 pn12_124 c12_124 mf183 (Nat.le_of_ble_eq_true rfl) rfl rfl (Nat.le_of_ble_eq_true rfl) (Nat.le_of_ble_eq_true rfl)
theorem E225_33 {d sl : Nat} {p : Nat → Nat} {I : Nat → Nat → Int32} {J : Nat → Nat → Int64} (l1 : Int32) (l2 : Int32) (l3 : Int32) (s0 : Int32) (s1 : Int32) (s2 : Int32)  : ev (d + 1) 225 33 [.ref 46, .int l1, .int l2, .int l3] [.int s0, .int s1, .int s2] (S sl p I J) = evK (d + 1) 225 40 [.ref 46, .int l1, .int l2, .int l3] [.int l1, .int (s2 + (s1 * s0))] (den d 182 [.int l2] (S sl p I J)) := by
  refine (r_imul (dk D225 20 rfl)).trans ?_
  refine (r_iadd (dk D225 21 rfl)).trans ?_
  refine (r_iln (dk D225 22 rfl) rfl).trans ?_
  refine (r_iln (dk D225 23 rfl) rfl).trans ?_
  exact r_cs (dk D225 24 rfl) ow225 pn12_111 c12_111 mf182 (Nat.le_of_ble_eq_true rfl) rfl rfl (Nat.le_of_ble_eq_true rfl) (Nat.le_of_ble_eq_true rfl)
theorem E225_40 {d sl : Nat} {p : Nat → Nat} {I : Nat → Nat → Int32} {J : Nat → Nat → Int64} (l1 : Int32) (l2 : Int32) (l3 : Int32) (s0 : Int32) (s1 : Int32) (s2 : Int32)  : ev (d + 1) 225 40 [.ref 46, .int l1, .int l2, .int l3] [.int s0, .int s1, .int s2] (S sl p I J) = evK (d + 1) 225 49 [.ref 46, .int l1, .int l2, .int l3] [.int (I 46 25), .int (s1 * s0), .int s2] (den d 183 [.int l2] (S sl p I J)) := by
  refine (r_imul (dk D225 25 rfl)).trans ?_
  refine (r_aln (dk D225 26 rfl) rfl).trans ?_
  refine (r_getI (dk D225 27 rfl) ow225 q12_133 ob_46).trans ?_
  refine (r_iln (dk D225 28 rfl) rfl).trans ?_
  exact r_cs (dk D225 29 rfl) ow225 pn12_124 c12_124 mf183 (Nat.le_of_ble_eq_true rfl) rfl rfl (Nat.le_of_ble_eq_true rfl) (Nat.le_of_ble_eq_true rfl)
theorem E225_49 {d sl : Nat} {p : Nat → Nat} {I : Nat → Nat → Int32} {J : Nat → Nat → Int64} (l1 : Int32) (l2 : Int32) (l3 : Int32) (s0 : Int32) (s1 : Int32) (s2 : Int32) (s3 : Int32)  : ev d 225 49 [.ref 46, .int l1, .int l2, .int l3] [.int s0, .int s1, .int s2, .int s3] (S sl p I J) = (if s3 ≤ (s2 + (s1 * s0)) then ev d 225 13 [.ref 46, .int l1, .int l2, .int (l3 + 1)] [] (S sl p I J) else ev d 225 13 [.ref 46, .int l1, .int l3, .int (l3 + 1)] [] (S sl p I J)) := by
  refine (r_imul (dk D225 30 rfl)).trans ?_
  refine (r_iadd (dk D225 31 rfl)).trans ?_
  refine (r_le (dk D225 32 rfl) rfl).trans (ite2 ?_ ?_)
  · refine (r_iln (dk D225 35 rfl) rfl).trans ?_
    refine (r_isn (L' := [.ref 46, .int l1, .int l2, .int l3]) (dk D225 36 rfl) (Nat.le_of_ble_eq_true rfl) rfl).trans ?_
    refine (r_inc (L' := [.ref 46, .int l1, .int l2, .int (l3 + 1)]) (dk D225 37 rfl) rfl rfl ci1 (Nat.le_of_ble_eq_true rfl) rfl).trans ?_
    refine (r_goto (L' := [.ref 46, .int l1, .int l2, .int (l3 + 1)]) (dk D225 38 rfl) rfl nd225_13 rfl).trans ?_
    exact rfl
  · refine (r_iln (dk D225 33 rfl) rfl).trans ?_
    refine (r_goto (L' := [.ref 46, .int l1, .int l2, .int l3]) (dk D225 34 rfl) rfl nd225_59 rfl).trans ?_
    refine (r_isn (L' := [.ref 46, .int l1, .int l3, .int l3]) (dk D225 36 rfl) (Nat.le_of_ble_eq_true rfl) rfl).trans ?_
    refine (r_inc (L' := [.ref 46, .int l1, .int l3, .int (l3 + 1)]) (dk D225 37 rfl) rfl rfl ci1 (Nat.le_of_ble_eq_true rfl) rfl).trans ?_
    refine (r_goto (L' := [.ref 46, .int l1, .int l3, .int (l3 + 1)]) (dk D225 38 rfl) rfl nd225_13 rfl).trans ?_
    exact rfl
set_option maxRecDepth 20000 in
theorem D226 : dOK 226 [(0, .aload_n 0, 1), (1, .invokevirtual 294, 3), (4, .sipush 180, 3), (7, .iadd, 1), (8, .sipush 360, 3), (11, .irem, 1), (12, .aload_n 0, 1), (13, .invokevirtual 300, 3), (16, .invokestatic 120, 3), (19, .ireturn, 1)] = true := by decide +kernel
theorem E226_0 {d sl : Nat} {p : Nat → Nat} {I : Nat → Nat → Int32} {J : Nat → Nat → Int64}   : den (d + 1) 226 [.ref 46] (S sl p I J) = evK (d + 1) 226 4 [.ref 46] [] (den d 223 [.ref 46] (S sl p I J)) := by
  refine (show den (d + 1) 226 [.ref 46] (S sl p I J) = ev (d + 1) 226 0 [.ref 46] [] (S sl p I J) from rfl).trans ?_
  refine (r_aln (dk D226 0 rfl) rfl).trans ?_
  exact r_cv (dk D226 1 rfl) ow226 c12_294 mf223 (Nat.le_of_ble_eq_true rfl) rfl rfl (Nat.le_of_ble_eq_true rfl) (Nat.le_of_ble_eq_true rfl) ob_46
theorem E226_4 {d sl : Nat} {p : Nat → Nat} {I : Nat → Nat → Int32} {J : Nat → Nat → Int64} (s0 : Int32)  : ev (d + 1) 226 4 [.ref 46] [.int s0] (S sl p I J) = evK (d + 1) 226 16 [.ref 46] [.int ((s0 + 180) - (s0 + 180) / 360 * 360)] (den d 225 [.ref 46] (S sl p I J)) := by
  refine (r_sp (dk D226 2 rfl) cs180).trans ?_
  refine (r_iadd (dk D226 3 rfl)).trans ?_
  refine (r_sp (dk D226 4 rfl) cs360).trans ?_
  refine (r_irem (dk D226 5 rfl) (by decide)).trans ?_
  refine (r_aln (dk D226 6 rfl) rfl).trans ?_
  exact r_cv (dk D226 7 rfl) ow226 c12_300 mf225 (Nat.le_of_ble_eq_true rfl) rfl rfl (Nat.le_of_ble_eq_true rfl) (Nat.le_of_ble_eq_true rfl) ob_46
theorem E226_16 {d sl : Nat} {p : Nat → Nat} {I : Nat → Nat → Int32} {J : Nat → Nat → Int64} (s0 : Int32) (s1 : Int32)  : ev (d + 1) 226 16 [.ref 46] [.int s0, .int s1] (S sl p I J) = evK (d + 1) 226 19 [.ref 46] [] (den d 185 [.int s1, .int s0] (S sl p I J)) := by
  exact r_cs (dk D226 8 rfl) ow226 pn12_120 c12_120 mf185 (Nat.le_of_ble_eq_true rfl) rfl rfl (Nat.le_of_ble_eq_true rfl) (Nat.le_of_ble_eq_true rfl)
theorem E226_19 {d sl : Nat} {p : Nat → Nat} {I : Nat → Nat → Int32} {J : Nat → Nat → Int64} (s0 : Int32)  : ev d 226 19 [.ref 46] [.int s0] (S sl p I J) = some (some (.int s0), (S sl p I J)) := by
  exact r_ret (dk D226 9 rfl) rt226
set_option maxRecDepth 20000 in
theorem D227 : dOK 227 [(0, .aload_n 0, 1), (1, .getfield 250, 3), (4, .aload_n 0, 1), (5, .getfield 254, 3), (8, .aload_n 0, 1), (9, .getfield 257, 3), (12, .invokestatic 146, 3), (15, .invokestatic 164, 3), (18, .ldc2_w 162, 3), (21, .ldiv, 1), (22, .lreturn, 1)] = true := by decide +kernel
theorem E227_0 {d sl : Nat} {p : Nat → Nat} {I : Nat → Nat → Int32} {J : Nat → Nat → Int64}   : den (d + 1) 227 [.ref 46] (S sl p I J) = evK (d + 1) 227 15 [.ref 46] [] (den d 189 [.long (J 46 32), .long (J 46 33), .long (J 46 34)] (S sl p I J)) := by
  refine (show den (d + 1) 227 [.ref 46] (S sl p I J) = ev (d + 1) 227 0 [.ref 46] [] (S sl p I J) from rfl).trans ?_
  refine (r_aln (dk D227 0 rfl) rfl).trans ?_
  refine (r_getJ (dk D227 1 rfl) ow227 q12_250 ob_46).trans ?_
  refine (r_aln (dk D227 2 rfl) rfl).trans ?_
  refine (r_getJ (dk D227 3 rfl) ow227 q12_254 ob_46).trans ?_
  refine (r_aln (dk D227 4 rfl) rfl).trans ?_
  refine (r_getJ (dk D227 5 rfl) ow227 q12_257 ob_46).trans ?_
  exact r_cs (dk D227 6 rfl) ow227 pn12_146 c12_146 mf189 (Nat.le_of_ble_eq_true rfl) rfl rfl (Nat.le_of_ble_eq_true rfl) (Nat.le_of_ble_eq_true rfl)
theorem E227_15 {d sl : Nat} {p : Nat → Nat} {I : Nat → Nat → Int32} {J : Nat → Nat → Int64} (s0 : Int64)  : ev (d + 1) 227 15 [.ref 46] [.long s0] (S sl p I J) = evK (d + 1) 227 18 [.ref 46] [] (den d 184 [.long s0] (S sl p I J)) := by
  exact r_cs (dk D227 7 rfl) ow227 pn12_164 c12_164 mf184 (Nat.le_of_ble_eq_true rfl) rfl rfl (Nat.le_of_ble_eq_true rfl) (Nat.le_of_ble_eq_true rfl)
theorem E227_18 {d sl : Nat} {p : Nat → Nat} {I : Nat → Nat → Int32} {J : Nat → Nat → Int64} (s0 : Int64)  : ev d 227 18 [.ref 46] [.long s0] (S sl p I J) = some (some (.long (s0 / 1000)), (S sl p I J)) := by
  refine (r_ld2 (dk D227 8 rfl) ow227 kk12_162).trans ?_
  refine (r_ldiv (dk D227 9 rfl) (by decide)).trans ?_
  exact r_rel (dk D227 10 rfl) rt227
set_option maxRecDepth 20000 in
theorem D228 : dOK 228 [(0, .aload_n 0, 1), (1, .invokevirtual 303, 3), (4, .lstore_n 1, 1), (5, .aload_n 0, 1), (6, .getfield 260, 3), (9, .lload_n 1, 1), (10, .lcmp, 1), (11, .ifCond .gt 8, 3), (14, .ldc 232, 2), (16, .goto 25, 3), (19, .ldc2_w 140, 3), (22, .ldc2_w 307, 3), (25, .aload_n 0, 1), (26, .getfield 260, 3), (29, .lmul, 1), (30, .aload_n 0, 1), (31, .getfield 260, 3), (34, .lload_n 1, 1), (35, .lsub, 1), (36, .ldiv, 1), (37, .invokestatic 168, 3), (40, .l2i, 1), (41, .ireturn, 1)] = true := by decide +kernel
theorem E228_0 {d sl : Nat} {p : Nat → Nat} {I : Nat → Nat → Int32} {J : Nat → Nat → Int64}   : den (d + 1) 228 [.ref 46] (S sl p I J) = evK (d + 1) 228 4 [.ref 46, .retAddr 0, .retAddr 0] [] (den d 227 [.ref 46] (S sl p I J)) := by
  refine (show den (d + 1) 228 [.ref 46] (S sl p I J) = ev (d + 1) 228 0 [.ref 46, .retAddr 0, .retAddr 0] [] (S sl p I J) from rfl).trans ?_
  refine (r_aln (dk D228 0 rfl) rfl).trans ?_
  exact r_cv (dk D228 1 rfl) ow228 c12_303 mf227 (Nat.le_of_ble_eq_true rfl) rfl rfl (Nat.le_of_ble_eq_true rfl) (Nat.le_of_ble_eq_true rfl) ob_46
theorem E228_4 {d sl : Nat} {p : Nat → Nat} {I : Nat → Nat → Int32} {J : Nat → Nat → Int64} (s0 : Int64)  : ev (d + 1) 228 4 [.ref 46, .retAddr 0, .retAddr 0] [.long s0] (S sl p I J) = (if (J 46 35) ≤ s0 then some (some (.int 1000000), (S sl p I J)) else ck (!decide (((J 46 35) - s0) = 0)) (some (some (.int (Int64.toInt32 (if ((100 * (J 46 35)) / ((J 46 35) - s0)) < 1000000 then ((100 * (J 46 35)) / ((J 46 35) - s0)) else 1000000))), (S sl p I J)))) := by
  refine (r_lsn (L' := [.ref 46, .long s0, .retAddr 0]) (dk D228 2 rfl) (Nat.le_of_ble_eq_true rfl) rfl).trans ?_
  refine (r_aln (dk D228 3 rfl) rfl).trans ?_
  refine (r_getJ (dk D228 4 rfl) ow228 q12_260 ob_46).trans ?_
  refine (r_lln (dk D228 5 rfl) rfl).trans ?_
  refine (r_jgt (dk D228 6 rfl) (dk D228 7 rfl) rfl).trans (ite2 ?_ ?_)
  · refine (r_ldc (dk D228 8 rfl) ow228 k12_232).trans ?_
    refine (r_goto (L' := [.ref 46, .long s0, .retAddr 0]) (dk D228 9 rfl) rfl nd228_41 rfl).trans ?_
    exact r_ret (dk D228 22 rfl) rt228
  · refine (r_ld2 (dk D228 10 rfl) ow228 kk12_140).trans ?_
    refine (r_ld2 (dk D228 11 rfl) ow228 kk12_307).trans ?_
    refine (r_aln (dk D228 12 rfl) rfl).trans ?_
    refine (r_getJ (dk D228 13 rfl) ow228 q12_260 ob_46).trans ?_
    refine (r_lmul (dk D228 14 rfl)).trans ?_
    refine (r_aln (dk D228 15 rfl) rfl).trans ?_
    refine (r_getJ (dk D228 16 rfl) ow228 q12_260 ob_46).trans ?_
    refine (r_lln (dk D228 17 rfl) rfl).trans ?_
    refine (r_lsub (dk D228 18 rfl)).trans ?_
    refine (r_ldivc (dk D228 19 rfl)).trans (ck3 fun g1 => ?_)
    refine (r_prm (st' := [.long (if ((100 * (J 46 35)) / ((J 46 35) - s0)) < 1000000 then ((100 * (J 46 35)) / ((J 46 35) - s0)) else 1000000)]) (dk D228 20 rfl) ow228 p12_168 (Nat.le_of_ble_eq_true rfl) rfl).trans ?_
    refine (r_l2i (dk D228 21 rfl)).trans ?_
    exact r_ret (dk D228 22 rfl) rt228
set_option maxRecDepth 20000 in
theorem D229 : dOK 229 [(0, .aload_n 0, 1), (1, .getfield 80, 3), (4, .iload_n 1, 1), (5, .iaload, 1), (6, .i2l, 1), (7, .aload_n 0, 1), (8, .getfield 83, 3), (11, .iload_n 1, 1), (12, .iaload, 1), (13, .i2l, 1), (14, .aload_n 0, 1), (15, .getfield 86, 3), (18, .iload_n 1, 1), (19, .iaload, 1), (20, .i2l, 1), (21, .invokestatic 146, 3), (24, .lreturn, 1)] = true := by decide +kernel
theorem E229_0 {d sl : Nat} {p : Nat → Nat} {I : Nat → Nat → Int32} {J : Nat → Nat → Int64} (a1 : Int32)  : den (d + 1) 229 [.ref 46, .int a1] (S sl p I J) = ck (ixb 30 a1) (ck (ixb 30 a1) (ck (ixb 30 a1) (evK (d + 1) 229 24 [.ref 46, .int a1] [] (den d 189 [.long (Int32.toInt64 (I 64 (Int32.toNatClampNeg a1))), .long (Int32.toInt64 (I 65 (Int32.toNatClampNeg a1))), .long (Int32.toInt64 (I 66 (Int32.toNatClampNeg a1)))] (S sl p I J))))) := by
  refine (show den (d + 1) 229 [.ref 46, .int a1] (S sl p I J) = ev (d + 1) 229 0 [.ref 46, .int a1] [] (S sl p I J) from rfl).trans ?_
  refine (r_aln (dk D229 0 rfl) rfl).trans ?_
  refine (r_getR (dk D229 1 rfl) ow229 q12_80 ob_46 rfl).trans ?_
  refine (r_iln (dk D229 2 rfl) rfl).trans ?_
  refine (r_ild (dk D229 3 rfl) ar_64).trans (ck3 fun g1 => ?_)
  refine (r_i2l (dk D229 4 rfl)).trans ?_
  refine (r_aln (dk D229 5 rfl) rfl).trans ?_
  refine (r_getR (dk D229 6 rfl) ow229 q12_83 ob_46 rfl).trans ?_
  refine (r_iln (dk D229 7 rfl) rfl).trans ?_
  refine (r_ild (dk D229 8 rfl) ar_65).trans (ck3 fun g2 => ?_)
  refine (r_i2l (dk D229 9 rfl)).trans ?_
  refine (r_aln (dk D229 10 rfl) rfl).trans ?_
  refine (r_getR (dk D229 11 rfl) ow229 q12_86 ob_46 rfl).trans ?_
  refine (r_iln (dk D229 12 rfl) rfl).trans ?_
  refine (r_ild (dk D229 13 rfl) ar_66).trans (ck3 fun g3 => ?_)
  refine (r_i2l (dk D229 14 rfl)).trans ?_
  exact r_cs (dk D229 15 rfl) ow229 pn12_146 c12_146 mf189 (Nat.le_of_ble_eq_true rfl) rfl rfl (Nat.le_of_ble_eq_true rfl) (Nat.le_of_ble_eq_true rfl)
theorem E229_24 {d sl : Nat} {p : Nat → Nat} {I : Nat → Nat → Int32} {J : Nat → Nat → Int64} (l1 : Int32) (s0 : Int64)  : ev d 229 24 [.ref 46, .int l1] [.long s0] (S sl p I J) = some (some (.long s0), (S sl p I J)) := by
  exact r_rel (dk D229 16 rfl) rt229
set_option maxRecDepth 20000 in
theorem D230 : dOK 230 [(0, .aload_n 0, 1), (1, .getfield 50, 3), (4, .iload_n 1, 1), (5, .iaload, 1), (6, .i2l, 1), (7, .aload_n 0, 1), (8, .getfield 53, 3), (11, .iload_n 1, 1), (12, .iaload, 1), (13, .i2l, 1), (14, .aload_n 0, 1), (15, .getfield 56, 3), (18, .iload_n 1, 1), (19, .iaload, 1), (20, .i2l, 1), (21, .aload_n 0, 1), (22, .getfield 80, 3), (25, .iload_n 2, 1), (26, .iaload, 1), (27, .i2l, 1), (28, .aload_n 0, 1), (29, .getfield 83, 3), (32, .iload_n 2, 1), (33, .iaload, 1), (34, .i2l, 1), (35, .aload_n 0, 1), (36, .getfield 86, 3), (39, .iload_n 2, 1), (40, .iaload, 1), (41, .i2l, 1), (42, .invokestatic 136, 3), (45, .lreturn, 1)] = true := by decide +kernel
theorem E230_0 {d sl : Nat} {p : Nat → Nat} {I : Nat → Nat → Int32} {J : Nat → Nat → Int64} (a1 : Int32) (a2 : Int32)  : den (d + 1) 230 [.ref 46, .int a1, .int a2] (S sl p I J) = ck (ixb 60 a1) (ck (ixb 60 a1) (ck (ixb 60 a1) (ck (ixb 30 a2) (ck (ixb 30 a2) (ck (ixb 30 a2) (evK (d + 1) 230 45 [.ref 46, .int a1, .int a2] [] (den d 188 [.long (Int32.toInt64 (I 54 (Int32.toNatClampNeg a1))), .long (Int32.toInt64 (I 55 (Int32.toNatClampNeg a1))), .long (Int32.toInt64 (I 56 (Int32.toNatClampNeg a1))), .long (Int32.toInt64 (I 64 (Int32.toNatClampNeg a2))), .long (Int32.toInt64 (I 65 (Int32.toNatClampNeg a2))), .long (Int32.toInt64 (I 66 (Int32.toNatClampNeg a2)))] (S sl p I J)))))))) := by
  refine (show den (d + 1) 230 [.ref 46, .int a1, .int a2] (S sl p I J) = ev (d + 1) 230 0 [.ref 46, .int a1, .int a2] [] (S sl p I J) from rfl).trans ?_
  refine (r_aln (dk D230 0 rfl) rfl).trans ?_
  refine (r_getR (dk D230 1 rfl) ow230 q12_50 ob_46 rfl).trans ?_
  refine (r_iln (dk D230 2 rfl) rfl).trans ?_
  refine (r_ild (dk D230 3 rfl) ar_54).trans (ck3 fun g1 => ?_)
  refine (r_i2l (dk D230 4 rfl)).trans ?_
  refine (r_aln (dk D230 5 rfl) rfl).trans ?_
  refine (r_getR (dk D230 6 rfl) ow230 q12_53 ob_46 rfl).trans ?_
  refine (r_iln (dk D230 7 rfl) rfl).trans ?_
  refine (r_ild (dk D230 8 rfl) ar_55).trans (ck3 fun g2 => ?_)
  refine (r_i2l (dk D230 9 rfl)).trans ?_
  refine (r_aln (dk D230 10 rfl) rfl).trans ?_
  refine (r_getR (dk D230 11 rfl) ow230 q12_56 ob_46 rfl).trans ?_
  refine (r_iln (dk D230 12 rfl) rfl).trans ?_
  refine (r_ild (dk D230 13 rfl) ar_56).trans (ck3 fun g3 => ?_)
  refine (r_i2l (dk D230 14 rfl)).trans ?_
  refine (r_aln (dk D230 15 rfl) rfl).trans ?_
  refine (r_getR (dk D230 16 rfl) ow230 q12_80 ob_46 rfl).trans ?_
  refine (r_iln (dk D230 17 rfl) rfl).trans ?_
  refine (r_ild (dk D230 18 rfl) ar_64).trans (ck3 fun g4 => ?_)
  refine (r_i2l (dk D230 19 rfl)).trans ?_
  refine (r_aln (dk D230 20 rfl) rfl).trans ?_
  refine (r_getR (dk D230 21 rfl) ow230 q12_83 ob_46 rfl).trans ?_
  refine (r_iln (dk D230 22 rfl) rfl).trans ?_
  refine (r_ild (dk D230 23 rfl) ar_65).trans (ck3 fun g5 => ?_)
  refine (r_i2l (dk D230 24 rfl)).trans ?_
  refine (r_aln (dk D230 25 rfl) rfl).trans ?_
  refine (r_getR (dk D230 26 rfl) ow230 q12_86 ob_46 rfl).trans ?_
  refine (r_iln (dk D230 27 rfl) rfl).trans ?_
  refine (r_ild (dk D230 28 rfl) ar_66).trans (ck3 fun g6 => ?_)
  refine (r_i2l (dk D230 29 rfl)).trans ?_
  exact r_cs (dk D230 30 rfl) ow230 pn12_136 c12_136 mf188 (Nat.le_of_ble_eq_true rfl) rfl rfl (Nat.le_of_ble_eq_true rfl) (Nat.le_of_ble_eq_true rfl)
theorem E230_45 {d sl : Nat} {p : Nat → Nat} {I : Nat → Nat → Int32} {J : Nat → Nat → Int64} (l1 : Int32) (l2 : Int32) (s0 : Int64)  : ev d 230 45 [.ref 46, .int l1, .int l2] [.long s0] (S sl p I J) = some (some (.long s0), (S sl p I J)) := by
  exact r_rel (dk D230 31 rfl) rt230
set_option maxRecDepth 20000 in
theorem D231 : dOK 231 [(0, .aload_n 0, 1), (1, .iload_n 1, 1), (2, .iload_n 2, 1), (3, .invokevirtual 309, 3), (6, .aload_n 0, 1), (7, .iload_n 1, 1), (8, .invokevirtual 154, 3), (11, .aload_n 0, 1), (12, .iload_n 2, 1), (13, .invokevirtual 312, 3), (16, .lmul, 1), (17, .invokestatic 158, 3), (20, .ireturn, 1)] = true := by decide +kernel
theorem E231_0 {d sl : Nat} {p : Nat → Nat} {I : Nat → Nat → Int32} {J : Nat → Nat → Int64} (a1 : Int32) (a2 : Int32)  : den (d + 1) 231 [.ref 46, .int a1, .int a2] (S sl p I J) = evK (d + 1) 231 6 [.ref 46, .int a1, .int a2] [] (den d 230 [.ref 46, .int a1, .int a2] (S sl p I J)) := by
  refine (show den (d + 1) 231 [.ref 46, .int a1, .int a2] (S sl p I J) = ev (d + 1) 231 0 [.ref 46, .int a1, .int a2] [] (S sl p I J) from rfl).trans ?_
  refine (r_aln (dk D231 0 rfl) rfl).trans ?_
  refine (r_iln (dk D231 1 rfl) rfl).trans ?_
  refine (r_iln (dk D231 2 rfl) rfl).trans ?_
  exact r_cv (dk D231 3 rfl) ow231 c12_309 mf230 (Nat.le_of_ble_eq_true rfl) rfl rfl (Nat.le_of_ble_eq_true rfl) (Nat.le_of_ble_eq_true rfl) ob_46
theorem E231_6 {d sl : Nat} {p : Nat → Nat} {I : Nat → Nat → Int32} {J : Nat → Nat → Int64} (l1 : Int32) (l2 : Int32) (s0 : Int64)  : ev (d + 1) 231 6 [.ref 46, .int l1, .int l2] [.long s0] (S sl p I J) = evK (d + 1) 231 11 [.ref 46, .int l1, .int l2] [.long s0] (den d 193 [.ref 46, .int l1] (S sl p I J)) := by
  refine (r_aln (dk D231 4 rfl) rfl).trans ?_
  refine (r_iln (dk D231 5 rfl) rfl).trans ?_
  exact r_cv (dk D231 6 rfl) ow231 c12_154 mf193 (Nat.le_of_ble_eq_true rfl) rfl rfl (Nat.le_of_ble_eq_true rfl) (Nat.le_of_ble_eq_true rfl) ob_46
theorem E231_11 {d sl : Nat} {p : Nat → Nat} {I : Nat → Nat → Int32} {J : Nat → Nat → Int64} (l1 : Int32) (l2 : Int32) (s0 : Int64) (s1 : Int64)  : ev (d + 1) 231 11 [.ref 46, .int l1, .int l2] [.long s0, .long s1] (S sl p I J) = evK (d + 1) 231 16 [.ref 46, .int l1, .int l2] [.long s0, .long s1] (den d 229 [.ref 46, .int l2] (S sl p I J)) := by
  refine (r_aln (dk D231 7 rfl) rfl).trans ?_
  refine (r_iln (dk D231 8 rfl) rfl).trans ?_
  exact r_cv (dk D231 9 rfl) ow231 c12_312 mf229 (Nat.le_of_ble_eq_true rfl) rfl rfl (Nat.le_of_ble_eq_true rfl) (Nat.le_of_ble_eq_true rfl) ob_46
theorem E231_16 {d sl : Nat} {p : Nat → Nat} {I : Nat → Nat → Int32} {J : Nat → Nat → Int64} (l1 : Int32) (l2 : Int32) (s0 : Int64) (s1 : Int64) (s2 : Int64)  : ev (d + 1) 231 16 [.ref 46, .int l1, .int l2] [.long s0, .long s1, .long s2] (S sl p I J) = evK (d + 1) 231 20 [.ref 46, .int l1, .int l2] [] (den d 191 [.long s2, .long (s1 * s0)] (S sl p I J)) := by
  refine (r_lmul (dk D231 10 rfl)).trans ?_
  exact r_cs (dk D231 11 rfl) ow231 pn12_158 c12_158 mf191 (Nat.le_of_ble_eq_true rfl) rfl rfl (Nat.le_of_ble_eq_true rfl) (Nat.le_of_ble_eq_true rfl)
theorem E231_20 {d sl : Nat} {p : Nat → Nat} {I : Nat → Nat → Int32} {J : Nat → Nat → Int64} (l1 : Int32) (l2 : Int32) (s0 : Int32)  : ev d 231 20 [.ref 46, .int l1, .int l2] [.int s0] (S sl p I J) = some (some (.int s0), (S sl p I J)) := by
  exact r_ret (dk D231 12 rfl) rt231
set_option maxRecDepth 20000 in
theorem D232 : dOK 232 [(0, .aload_n 0, 1), (1, .iload_n 1, 1), (2, .iload_n 2, 1), (3, .invokevirtual 309, 3), (6, .aload_n 0, 1), (7, .iload_n 1, 1), (8, .invokevirtual 154, 3), (11, .aload_n 0, 1), (12, .iload_n 2, 1), (13, .invokevirtual 312, 3), (16, .lmul, 1), (17, .iload_n 3, 1), (18, .invokestatic 142, 3), (21, .ireturn, 1)] = true := by decide +kernel
theorem E232_0 {d sl : Nat} {p : Nat → Nat} {I : Nat → Nat → Int32} {J : Nat → Nat → Int64} (a1 : Int32) (a2 : Int32) (a3 : Int32)  : den (d + 1) 232 [.ref 46, .int a1, .int a2, .int a3] (S sl p I J) = evK (d + 1) 232 6 [.ref 46, .int a1, .int a2, .int a3] [] (den d 230 [.ref 46, .int a1, .int a2] (S sl p I J)) := by
  refine (show den (d + 1) 232 [.ref 46, .int a1, .int a2, .int a3] (S sl p I J) = ev (d + 1) 232 0 [.ref 46, .int a1, .int a2, .int a3] [] (S sl p I J) from rfl).trans ?_
  refine (r_aln (dk D232 0 rfl) rfl).trans ?_
  refine (r_iln (dk D232 1 rfl) rfl).trans ?_
  refine (r_iln (dk D232 2 rfl) rfl).trans ?_
  exact r_cv (dk D232 3 rfl) ow232 c12_309 mf230 (Nat.le_of_ble_eq_true rfl) rfl rfl (Nat.le_of_ble_eq_true rfl) (Nat.le_of_ble_eq_true rfl) ob_46
theorem E232_6 {d sl : Nat} {p : Nat → Nat} {I : Nat → Nat → Int32} {J : Nat → Nat → Int64} (l1 : Int32) (l2 : Int32) (l3 : Int32) (s0 : Int64)  : ev (d + 1) 232 6 [.ref 46, .int l1, .int l2, .int l3] [.long s0] (S sl p I J) = evK (d + 1) 232 11 [.ref 46, .int l1, .int l2, .int l3] [.long s0] (den d 193 [.ref 46, .int l1] (S sl p I J)) := by
  refine (r_aln (dk D232 4 rfl) rfl).trans ?_
  refine (r_iln (dk D232 5 rfl) rfl).trans ?_
  exact r_cv (dk D232 6 rfl) ow232 c12_154 mf193 (Nat.le_of_ble_eq_true rfl) rfl rfl (Nat.le_of_ble_eq_true rfl) (Nat.le_of_ble_eq_true rfl) ob_46
theorem E232_11 {d sl : Nat} {p : Nat → Nat} {I : Nat → Nat → Int32} {J : Nat → Nat → Int64} (l1 : Int32) (l2 : Int32) (l3 : Int32) (s0 : Int64) (s1 : Int64)  : ev (d + 1) 232 11 [.ref 46, .int l1, .int l2, .int l3] [.long s0, .long s1] (S sl p I J) = evK (d + 1) 232 16 [.ref 46, .int l1, .int l2, .int l3] [.long s0, .long s1] (den d 229 [.ref 46, .int l2] (S sl p I J)) := by
  refine (r_aln (dk D232 7 rfl) rfl).trans ?_
  refine (r_iln (dk D232 8 rfl) rfl).trans ?_
  exact r_cv (dk D232 9 rfl) ow232 c12_312 mf229 (Nat.le_of_ble_eq_true rfl) rfl rfl (Nat.le_of_ble_eq_true rfl) (Nat.le_of_ble_eq_true rfl) ob_46
theorem E232_16 {d sl : Nat} {p : Nat → Nat} {I : Nat → Nat → Int32} {J : Nat → Nat → Int64} (l1 : Int32) (l2 : Int32) (l3 : Int32) (s0 : Int64) (s1 : Int64) (s2 : Int64)  : ev (d + 1) 232 16 [.ref 46, .int l1, .int l2, .int l3] [.long s0, .long s1, .long s2] (S sl p I J) = evK (d + 1) 232 21 [.ref 46, .int l1, .int l2, .int l3] [] (den d 190 [.long s2, .long (s1 * s0), .int l3] (S sl p I J)) := by
  refine (r_lmul (dk D232 10 rfl)).trans ?_
  refine (r_iln (dk D232 11 rfl) rfl).trans ?_
  exact r_cs (dk D232 12 rfl) ow232 pn12_142 c12_142 mf190 (Nat.le_of_ble_eq_true rfl) rfl rfl (Nat.le_of_ble_eq_true rfl) (Nat.le_of_ble_eq_true rfl)
theorem E232_21 {d sl : Nat} {p : Nat → Nat} {I : Nat → Nat → Int32} {J : Nat → Nat → Int64} (l1 : Int32) (l2 : Int32) (l3 : Int32) (s0 : Int32)  : ev d 232 21 [.ref 46, .int l1, .int l2, .int l3] [.int s0] (S sl p I J) = ck (decide (s0 = 0 ∨ s0 = 1)) (some (some (.int s0), (S sl p I J))) := by
  exact r_rezc (dk D232 13 rfl) rt232
set_option maxRecDepth 20000 in
theorem D233 : dOK 233 [(0, .iconst 0, 1), (1, .istore_n 2, 1), (2, .iconst 0, 1), (3, .istore_n 3, 1), (4, .iload_n 3, 1), (5, .aload_n 0, 1), (6, .getfield 196, 3), (9, .if_icmp .ge 30, 3), (12, .aload_n 0, 1), (13, .getfield 71, 3), (16, .iload_n 3, 1), (17, .iaload, 1), (18, .iload_n 1, 1), (19, .if_icmp .ne 14, 3), (22, .iload_n 2, 1), (23, .aload_n 0, 1), (24, .iload_n 3, 1), (25, .iload_n 1, 1), (26, .invokevirtual 315, 3), (29, .invokestatic 318, 3), (32, .istore_n 2, 1), (33, .iinc 3 1, 3), (36, .goto (-32), 3), (39, .iload_n 2, 1), (40, .ireturn, 1)] = true := by decide +kernel
theorem E233_0 {d sl : Nat} {p : Nat → Nat} {I : Nat → Nat → Int32} {J : Nat → Nat → Int64} (a1 : Int32)  : den d 233 [.ref 46, .int a1] (S sl p I J) = ev d 233 4 [.ref 46, .int a1, .int 0, .int 0] [] (S sl p I J) := by
  refine (show den d 233 [.ref 46, .int a1] (S sl p I J) = ev d 233 0 [.ref 46, .int a1, .retAddr 0, .retAddr 0] [] (S sl p I J) from rfl).trans ?_
  refine (r_ic (dk D233 0 rfl) ci0).trans ?_
  refine (r_isn (L' := [.ref 46, .int a1, .int 0, .retAddr 0]) (dk D233 1 rfl) (Nat.le_of_ble_eq_true rfl) rfl).trans ?_
  refine (r_ic (dk D233 2 rfl) ci0).trans ?_
  refine (r_isn (L' := [.ref 46, .int a1, .int 0, .int 0]) (dk D233 3 rfl) (Nat.le_of_ble_eq_true rfl) rfl).trans ?_
  exact rfl
theorem E233_4 {d sl : Nat} {p : Nat → Nat} {I : Nat → Nat → Int32} {J : Nat → Nat → Int64} (l1 : Int32) (l2 : Int32) (l3 : Int32)  : ev (d + 1) 233 4 [.ref 46, .int l1, .int l2, .int l3] [] (S sl p I J) = (if l3 < (I 46 2) then ck (ixb 60 l3) ((if (I 61 (Int32.toNatClampNeg l3)) = l1 then evK (d + 1) 233 29 [.ref 46, .int l1, .int l2, .int l3] [.int l2] (den d 231 [.ref 46, .int l3, .int l1] (S sl p I J)) else ev (d + 1) 233 4 [.ref 46, .int l1, .int l2, .int (l3 + 1)] [] (S sl p I J))) else some (some (.int l2), (S sl p I J))) := by
  refine (r_iln (dk D233 4 rfl) rfl).trans ?_
  refine (r_aln (dk D233 5 rfl) rfl).trans ?_
  refine (r_getI (dk D233 6 rfl) ow233 q12_196 ob_46).trans ?_
  refine (r_ge (dk D233 7 rfl) rfl).trans (ite2 ?_ ?_)
  · refine (r_aln (dk D233 8 rfl) rfl).trans ?_
    refine (r_getR (dk D233 9 rfl) ow233 q12_71 ob_46 rfl).trans ?_
    refine (r_iln (dk D233 10 rfl) rfl).trans ?_
    refine (r_ild (dk D233 11 rfl) ar_61).trans (ck3 fun g1 => ?_)
    refine (r_iln (dk D233 12 rfl) rfl).trans ?_
    refine (r_ne (dk D233 13 rfl) rfl).trans (ite2 ?_ ?_)
    · refine (r_iln (dk D233 14 rfl) rfl).trans ?_
      refine (r_aln (dk D233 15 rfl) rfl).trans ?_
      refine (r_iln (dk D233 16 rfl) rfl).trans ?_
      refine (r_iln (dk D233 17 rfl) rfl).trans ?_
      exact r_cv (dk D233 18 rfl) ow233 c12_315 mf231 (Nat.le_of_ble_eq_true rfl) rfl rfl (Nat.le_of_ble_eq_true rfl) (Nat.le_of_ble_eq_true rfl) ob_46
    · refine (r_inc (L' := [.ref 46, .int l1, .int l2, .int (l3 + 1)]) (dk D233 21 rfl) rfl rfl ci1 (Nat.le_of_ble_eq_true rfl) rfl).trans ?_
      refine (r_goto (L' := [.ref 46, .int l1, .int l2, .int (l3 + 1)]) (dk D233 22 rfl) rfl nd233_4 rfl).trans ?_
      exact rfl
  · refine (r_iln (dk D233 23 rfl) rfl).trans ?_
    exact r_ret (dk D233 24 rfl) rt233
theorem E233_29 {d sl : Nat} {p : Nat → Nat} {I : Nat → Nat → Int32} {J : Nat → Nat → Int64} (l1 : Int32) (l2 : Int32) (l3 : Int32) (s0 : Int32) (s1 : Int32)  : ev (d + 1) 233 29 [.ref 46, .int l1, .int l2, .int l3] [.int s0, .int s1] (S sl p I J) = ev (d + 1) 233 4 [.ref 46, .int l1, .int (if s1 < s0 then s0 else s1), .int (l3 + 1)] [] (S sl p I J) := by
  refine (r_prm (st' := [.int (if s1 < s0 then s0 else s1)]) (dk D233 19 rfl) ow233 p12_318 (Nat.le_of_ble_eq_true rfl) rfl).trans ?_
  refine (r_isn (L' := [.ref 46, .int l1, .int (if s1 < s0 then s0 else s1), .int l3]) (dk D233 20 rfl) (Nat.le_of_ble_eq_true rfl) rfl).trans ?_
  refine (r_inc (L' := [.ref 46, .int l1, .int (if s1 < s0 then s0 else s1), .int (l3 + 1)]) (dk D233 21 rfl) rfl rfl ci1 (Nat.le_of_ble_eq_true rfl) rfl).trans ?_
  refine (r_goto (L' := [.ref 46, .int l1, .int (if s1 < s0 then s0 else s1), .int (l3 + 1)]) (dk D233 22 rfl) rfl nd233_4 rfl).trans ?_
  exact rfl
set_option maxRecDepth 20000 in
theorem D234 : dOK 234 [(0, .aload_n 0, 1), (1, .iload_n 1, 1), (2, .invokevirtual 283, 3), (5, .iconst 0, 1), (6, .istore_n 2, 1), (7, .iload_n 2, 1), (8, .bipush 90, 2), (10, .if_icmp .ge 80, 3), (13, .lconst 0, 1), (14, .lstore_n 3, 1), (15, .iconst 0, 1), (16, .istore 5, 2), (18, .iload 5, 2), (20, .aload_n 0, 1), (21, .getfield 196, 3), (24, .if_icmp .ge 45, 3), (27, .lload_n 3, 1), (28, .aload_n 0, 1), (29, .getfield 71, 3), (32, .iload 5, 2), (34, .iaload, 1), (35, .iload_n 1, 1), (36, .if_icmp .ne 24, 3), (39, .aload_n 0, 1), (40, .iload 5, 2), (42, .iload_n 1, 1), (43, .iload_n 2, 1), (44, .invokevirtual 321, 3), (47, .ifCond .eq 13, 3), (50, .aload_n 0, 1), (51, .iload 5, 2), (53, .invokevirtual 266, 3), (56, .i2l, 1), (57, .goto 4, 3), (60, .lconst 0, 1), (61, .ladd, 1), (62, .lstore_n 3, 1), (63, .iinc 5 1, 3), (66, .goto (-48), 3), (69, .ldc2_w 118, 3), (72, .lload_n 3, 1), (73, .lmul, 1), (74, .aload_n 0, 1), (75, .getfield 260, 3), (78, .lcmp, 1), (79, .ifCond .lt 5, 3), (82, .iload_n 2, 1), (83, .ireturn, 1), (84, .iinc 2 1, 3), (87, .goto (-80), 3), (90, .bipush 90, 2), (92, .ireturn, 1)] = true := by decide +kernel
theorem E234_0 {d sl : Nat} {p : Nat → Nat} {I : Nat → Nat → Int32} {J : Nat → Nat → Int64} (a1 : Int32)  : den (d + 1) 234 [.ref 46, .int a1] (S sl p I J) = evK (d + 1) 234 5 [.ref 46, .int a1, .retAddr 0, .retAddr 0, .retAddr 0, .retAddr 0] [] (den d 219 [.ref 46, .int a1] (S sl p I J)) := by
  refine (show den (d + 1) 234 [.ref 46, .int a1] (S sl p I J) = ev (d + 1) 234 0 [.ref 46, .int a1, .retAddr 0, .retAddr 0, .retAddr 0, .retAddr 0] [] (S sl p I J) from rfl).trans ?_
  refine (r_aln (dk D234 0 rfl) rfl).trans ?_
  refine (r_iln (dk D234 1 rfl) rfl).trans ?_
  exact r_cv (dk D234 2 rfl) ow234 c12_283 mf219 (Nat.le_of_ble_eq_true rfl) rfl rfl (Nat.le_of_ble_eq_true rfl) (Nat.le_of_ble_eq_true rfl) ob_46
theorem E234_5 {d sl : Nat} {p : Nat → Nat} {I : Nat → Nat → Int32} {J : Nat → Nat → Int64} (l1 : Int32)  : ev d 234 5 [.ref 46, .int l1, .retAddr 0, .retAddr 0, .retAddr 0, .retAddr 0] [] (S sl p I J) = ev d 234 7 [.ref 46, .int l1, .int 0, .retAddr 0, .retAddr 0, .retAddr 0] [] (S sl p I J) := by
  refine (r_ic (dk D234 3 rfl) ci0).trans ?_
  refine (r_isn (L' := [.ref 46, .int l1, .int 0, .retAddr 0, .retAddr 0, .retAddr 0]) (dk D234 4 rfl) (Nat.le_of_ble_eq_true rfl) rfl).trans ?_
  exact rfl
theorem E234_7 {d sl : Nat} {p : Nat → Nat} {I : Nat → Nat → Int32} {J : Nat → Nat → Int64} (l1 : Int32) (l2 : Int32)  : ev d 234 7 [.ref 46, .int l1, .int l2, .retAddr 0, .retAddr 0, .retAddr 0] [] (S sl p I J) = (if l2 < 90 then ev d 234 18 [.ref 46, .int l1, .int l2, .long 0, .retAddr 0, .int 0] [] (S sl p I J) else some (some (.int 90), (S sl p I J))) := by
  refine (r_iln (dk D234 5 rfl) rfl).trans ?_
  refine (r_bp (dk D234 6 rfl) cb90).trans ?_
  refine (r_ge (dk D234 7 rfl) rfl).trans (ite2 ?_ ?_)
  · refine (r_lc (dk D234 8 rfl) cl0).trans ?_
    refine (r_lsn (L' := [.ref 46, .int l1, .int l2, .long 0, .retAddr 0, .retAddr 0]) (dk D234 9 rfl) (Nat.le_of_ble_eq_true rfl) rfl).trans ?_
    refine (r_ic (dk D234 10 rfl) ci0).trans ?_
    refine (r_is (L' := [.ref 46, .int l1, .int l2, .long 0, .retAddr 0, .int 0]) (dk D234 11 rfl) (Nat.le_of_ble_eq_true rfl) rfl).trans ?_
    exact rfl
  · refine (r_bp (dk D234 50 rfl) cb90).trans ?_
    exact r_ret (dk D234 51 rfl) rt234
theorem E234_18 {d sl : Nat} {p : Nat → Nat} {I : Nat → Nat → Int32} {J : Nat → Nat → Int64} (l1 : Int32) (l2 : Int32) (l3 : Int64) (l5 : Int32)  : ev (d + 1) 234 18 [.ref 46, .int l1, .int l2, .long l3, .retAddr 0, .int l5] [] (S sl p I J) = (if l5 < (I 46 2) then ck (ixb 60 l5) ((if (I 61 (Int32.toNatClampNeg l5)) = l1 then evK (d + 1) 234 47 [.ref 46, .int l1, .int l2, .long l3, .retAddr 0, .int l5] [.long l3] (den d 232 [.ref 46, .int l5, .int l1, .int l2] (S sl p I J)) else ev (d + 1) 234 18 [.ref 46, .int l1, .int l2, .long (l3 + 0), .retAddr 0, .int (l5 + 1)] [] (S sl p I J))) else (if (2 * l3) < (J 46 35) then ev (d + 1) 234 7 [.ref 46, .int l1, .int (l2 + 1), .retAddr 0, .retAddr 0, .retAddr 0] [] (S sl p I J) else some (some (.int l2), (S sl p I J)))) := by
  refine (r_il (dk D234 12 rfl) rfl).trans ?_
  refine (r_aln (dk D234 13 rfl) rfl).trans ?_
  refine (r_getI (dk D234 14 rfl) ow234 q12_196 ob_46).trans ?_
  refine (r_ge (dk D234 15 rfl) rfl).trans (ite2 ?_ ?_)
  · refine (r_lln (dk D234 16 rfl) rfl).trans ?_
    refine (r_aln (dk D234 17 rfl) rfl).trans ?_
    refine (r_getR (dk D234 18 rfl) ow234 q12_71 ob_46 rfl).trans ?_
    refine (r_il (dk D234 19 rfl) rfl).trans ?_
    refine (r_ild (dk D234 20 rfl) ar_61).trans (ck3 fun g1 => ?_)
    refine (r_iln (dk D234 21 rfl) rfl).trans ?_
    refine (r_ne (dk D234 22 rfl) rfl).trans (ite2 ?_ ?_)
    · refine (r_aln (dk D234 23 rfl) rfl).trans ?_
      refine (r_il (dk D234 24 rfl) rfl).trans ?_
      refine (r_iln (dk D234 25 rfl) rfl).trans ?_
      refine (r_iln (dk D234 26 rfl) rfl).trans ?_
      exact r_cv (dk D234 27 rfl) ow234 c12_321 mf232 (Nat.le_of_ble_eq_true rfl) rfl rfl (Nat.le_of_ble_eq_true rfl) (Nat.le_of_ble_eq_true rfl) ob_46
    · refine (r_lc (dk D234 34 rfl) cl0).trans ?_
      refine (r_ladd (dk D234 35 rfl)).trans ?_
      refine (r_lsn (L' := [.ref 46, .int l1, .int l2, .long (l3 + 0), .retAddr 0, .int l5]) (dk D234 36 rfl) (Nat.le_of_ble_eq_true rfl) rfl).trans ?_
      refine (r_inc (L' := [.ref 46, .int l1, .int l2, .long (l3 + 0), .retAddr 0, .int (l5 + 1)]) (dk D234 37 rfl) rfl rfl ci1 (Nat.le_of_ble_eq_true rfl) rfl).trans ?_
      refine (r_goto (L' := [.ref 46, .int l1, .int l2, .long (l3 + 0), .retAddr 0, .int (l5 + 1)]) (dk D234 38 rfl) rfl nd234_18 rfl).trans ?_
      exact rfl
  · refine (r_ld2 (dk D234 39 rfl) ow234 kk12_118).trans ?_
    refine (r_lln (dk D234 40 rfl) rfl).trans ?_
    refine (r_lmul (dk D234 41 rfl)).trans ?_
    refine (r_aln (dk D234 42 rfl) rfl).trans ?_
    refine (r_getJ (dk D234 43 rfl) ow234 q12_260 ob_46).trans ?_
    refine (r_jlt (dk D234 44 rfl) (dk D234 45 rfl) rfl).trans (ite2 ?_ ?_)
    · refine (r_inc (L' := [.ref 46, .int l1, .int (l2 + 1), .long l3, .retAddr 0, .int l5]) (dk D234 48 rfl) rfl rfl ci1 (Nat.le_of_ble_eq_true rfl) rfl).trans ?_
      refine (r_goto (L' := [.ref 46, .int l1, .int (l2 + 1), .retAddr 0, .retAddr 0, .retAddr 0]) (dk D234 49 rfl) rfl nd234_7 rfl).trans ?_
      exact rfl
    · refine (r_iln (dk D234 46 rfl) rfl).trans ?_
      exact r_ret (dk D234 47 rfl) rt234
theorem E234_47 {d sl : Nat} {p : Nat → Nat} {I : Nat → Nat → Int32} {J : Nat → Nat → Int64} (l1 : Int32) (l2 : Int32) (l3 : Int64) (l5 : Int32) (s0 : Int32) (s1 : Int64)  : ev (d + 1) 234 47 [.ref 46, .int l1, .int l2, .long l3, .retAddr 0, .int l5] [.int s0, .long s1] (S sl p I J) = (if s0 = 0 then ev (d + 1) 234 18 [.ref 46, .int l1, .int l2, .long (s1 + 0), .retAddr 0, .int (l5 + 1)] [] (S sl p I J) else evK (d + 1) 234 56 [.ref 46, .int l1, .int l2, .long l3, .retAddr 0, .int l5] [.long s1] (den d 197 [.ref 46, .int l5] (S sl p I J))) := by
  refine (r_eq0 (dk D234 28 rfl) rfl).trans (ite2 ?_ ?_)
  · refine (r_lc (dk D234 34 rfl) cl0).trans ?_
    refine (r_ladd (dk D234 35 rfl)).trans ?_
    refine (r_lsn (L' := [.ref 46, .int l1, .int l2, .long (s1 + 0), .retAddr 0, .int l5]) (dk D234 36 rfl) (Nat.le_of_ble_eq_true rfl) rfl).trans ?_
    refine (r_inc (L' := [.ref 46, .int l1, .int l2, .long (s1 + 0), .retAddr 0, .int (l5 + 1)]) (dk D234 37 rfl) rfl rfl ci1 (Nat.le_of_ble_eq_true rfl) rfl).trans ?_
    refine (r_goto (L' := [.ref 46, .int l1, .int l2, .long (s1 + 0), .retAddr 0, .int (l5 + 1)]) (dk D234 38 rfl) rfl nd234_18 rfl).trans ?_
    exact rfl
  · refine (r_aln (dk D234 29 rfl) rfl).trans ?_
    refine (r_il (dk D234 30 rfl) rfl).trans ?_
    exact r_cv (dk D234 31 rfl) ow234 c12_266 mf197 (Nat.le_of_ble_eq_true rfl) rfl rfl (Nat.le_of_ble_eq_true rfl) (Nat.le_of_ble_eq_true rfl) ob_46
theorem E234_56 {d sl : Nat} {p : Nat → Nat} {I : Nat → Nat → Int32} {J : Nat → Nat → Int64} (l1 : Int32) (l2 : Int32) (l3 : Int64) (l5 : Int32) (s0 : Int32) (s1 : Int64)  : ev d 234 56 [.ref 46, .int l1, .int l2, .long l3, .retAddr 0, .int l5] [.int s0, .long s1] (S sl p I J) = ev d 234 18 [.ref 46, .int l1, .int l2, .long (s1 + (Int32.toInt64 s0)), .retAddr 0, .int (l5 + 1)] [] (S sl p I J) := by
  refine (r_i2l (dk D234 32 rfl)).trans ?_
  refine (r_goto (L' := [.ref 46, .int l1, .int l2, .long l3, .retAddr 0, .int l5]) (dk D234 33 rfl) rfl nd234_61 rfl).trans ?_
  refine (r_ladd (dk D234 35 rfl)).trans ?_
  refine (r_lsn (L' := [.ref 46, .int l1, .int l2, .long (s1 + (Int32.toInt64 s0)), .retAddr 0, .int l5]) (dk D234 36 rfl) (Nat.le_of_ble_eq_true rfl) rfl).trans ?_
  refine (r_inc (L' := [.ref 46, .int l1, .int l2, .long (s1 + (Int32.toInt64 s0)), .retAddr 0, .int (l5 + 1)]) (dk D234 37 rfl) rfl rfl ci1 (Nat.le_of_ble_eq_true rfl) rfl).trans ?_
  refine (r_goto (L' := [.ref 46, .int l1, .int l2, .long (s1 + (Int32.toInt64 s0)), .retAddr 0, .int (l5 + 1)]) (dk D234 38 rfl) rfl nd234_18 rfl).trans ?_
  exact rfl
set_option maxRecDepth 20000 in
theorem D235 : dOK 235 [(0, .iload_n 1, 1), (1, .iconst 0, 1), (2, .aload_n 0, 1), (3, .getfield 244, 3), (6, .iconst 1, 1), (7, .isub, 1), (8, .invokestatic 178, 3), (11, .ireturn, 1)] = true := by decide +kernel
theorem E235_0 {d sl : Nat} {p : Nat → Nat} {I : Nat → Nat → Int32} {J : Nat → Nat → Int64} (a1 : Int32)  : den (d + 1) 235 [.ref 46, .int a1] (S sl p I J) = evK (d + 1) 235 11 [.ref 46, .int a1] [] (den d 181 [.int a1, .int 0, .int ((I 46 31) - 1)] (S sl p I J)) := by
  refine (show den (d + 1) 235 [.ref 46, .int a1] (S sl p I J) = ev (d + 1) 235 0 [.ref 46, .int a1] [] (S sl p I J) from rfl).trans ?_
  refine (r_iln (dk D235 0 rfl) rfl).trans ?_
  refine (r_ic (dk D235 1 rfl) ci0).trans ?_
  refine (r_aln (dk D235 2 rfl) rfl).trans ?_
  refine (r_getI (dk D235 3 rfl) ow235 q12_244 ob_46).trans ?_
  refine (r_ic (dk D235 4 rfl) ci1).trans ?_
  refine (r_isub (dk D235 5 rfl)).trans ?_
  exact r_cs (dk D235 6 rfl) ow235 pn12_178 c12_178 mf181 (Nat.le_of_ble_eq_true rfl) rfl rfl (Nat.le_of_ble_eq_true rfl) (Nat.le_of_ble_eq_true rfl)
theorem E235_11 {d sl : Nat} {p : Nat → Nat} {I : Nat → Nat → Int32} {J : Nat → Nat → Int64} (l1 : Int32) (s0 : Int32)  : ev d 235 11 [.ref 46, .int l1] [.int s0] (S sl p I J) = ck (decide (s0 = 0 ∨ s0 = 1)) (some (some (.int s0), (S sl p I J))) := by
  exact r_rezc (dk D235 7 rfl) rt235
set_option maxRecDepth 20000 in
theorem D236 : dOK 236 [(0, .aload_n 0, 1), (1, .iload_n 1, 1), (2, .invokevirtual 324, 3), (5, .ifCond .eq 20, 3), (8, .aload_n 0, 1), (9, .iload_n 2, 1), (10, .invokevirtual 324, 3), (13, .ifCond .eq 12, 3), (16, .iload_n 1, 1), (17, .iload_n 2, 1), (18, .if_icmp .eq 7, 3), (21, .iconst 1, 1), (22, .goto 4, 3), (25, .iconst 0, 1), (26, .ireturn, 1)] = true := by decide +kernel
theorem E236_0 {d sl : Nat} {p : Nat → Nat} {I : Nat → Nat → Int32} {J : Nat → Nat → Int64} (a1 : Int32) (a2 : Int32)  : den (d + 1) 236 [.ref 46, .int a1, .int a2] (S sl p I J) = evK (d + 1) 236 5 [.ref 46, .int a1, .int a2] [] (den d 235 [.ref 46, .int a1] (S sl p I J)) := by
  refine (show den (d + 1) 236 [.ref 46, .int a1, .int a2] (S sl p I J) = ev (d + 1) 236 0 [.ref 46, .int a1, .int a2] [] (S sl p I J) from rfl).trans ?_
  refine (r_aln (dk D236 0 rfl) rfl).trans ?_
  refine (r_iln (dk D236 1 rfl) rfl).trans ?_
  exact r_cv (dk D236 2 rfl) ow236 c12_324 mf235 (Nat.le_of_ble_eq_true rfl) rfl rfl (Nat.le_of_ble_eq_true rfl) (Nat.le_of_ble_eq_true rfl) ob_46
theorem E236_5 {d sl : Nat} {p : Nat → Nat} {I : Nat → Nat → Int32} {J : Nat → Nat → Int64} (l1 : Int32) (l2 : Int32) (s0 : Int32)  : ev (d + 1) 236 5 [.ref 46, .int l1, .int l2] [.int s0] (S sl p I J) = (if s0 = 0 then some (some (.int 0), (S sl p I J)) else evK (d + 1) 236 13 [.ref 46, .int l1, .int l2] [] (den d 235 [.ref 46, .int l2] (S sl p I J))) := by
  refine (r_eq0 (dk D236 3 rfl) rfl).trans (ite2 ?_ ?_)
  · refine (r_ic (dk D236 13 rfl) ci0).trans ?_
    exact r_rez (dk D236 14 rfl) rt236 (by decide)
  · refine (r_aln (dk D236 4 rfl) rfl).trans ?_
    refine (r_iln (dk D236 5 rfl) rfl).trans ?_
    exact r_cv (dk D236 6 rfl) ow236 c12_324 mf235 (Nat.le_of_ble_eq_true rfl) rfl rfl (Nat.le_of_ble_eq_true rfl) (Nat.le_of_ble_eq_true rfl) ob_46
theorem E236_13 {d sl : Nat} {p : Nat → Nat} {I : Nat → Nat → Int32} {J : Nat → Nat → Int64} (l1 : Int32) (l2 : Int32) (s0 : Int32)  : ev d 236 13 [.ref 46, .int l1, .int l2] [.int s0] (S sl p I J) = (if s0 = 0 then some (some (.int 0), (S sl p I J)) else (if l1 = l2 then some (some (.int 0), (S sl p I J)) else some (some (.int 1), (S sl p I J)))) := by
  refine (r_eq0 (dk D236 7 rfl) rfl).trans (ite2 ?_ ?_)
  · refine (r_ic (dk D236 13 rfl) ci0).trans ?_
    exact r_rez (dk D236 14 rfl) rt236 (by decide)
  · refine (r_iln (dk D236 8 rfl) rfl).trans ?_
    refine (r_iln (dk D236 9 rfl) rfl).trans ?_
    refine (r_eq (dk D236 10 rfl) rfl).trans (ite2 ?_ ?_)
    · refine (r_ic (dk D236 13 rfl) ci0).trans ?_
      exact r_rez (dk D236 14 rfl) rt236 (by decide)
    · refine (r_ic (dk D236 11 rfl) ci1).trans ?_
      refine (r_goto (L' := [.ref 46, .int l1, .int l2]) (dk D236 12 rfl) rfl nd236_26 rfl).trans ?_
      exact r_rez (dk D236 14 rfl) rt236 (by decide)
set_option maxRecDepth 20000 in
theorem D237 : dOK 237 [(0, .iconst 0, 1), (1, .istore_n 1, 1), (2, .iconst 0, 1), (3, .istore_n 2, 1), (4, .iload_n 2, 1), (5, .aload_n 0, 1), (6, .getfield 196, 3), (9, .if_icmp .ge 62, 3), (12, .iconst 1, 1), (13, .istore_n 3, 1), (14, .iconst 0, 1), (15, .istore 4, 2), (17, .iload 4, 2), (19, .iload_n 2, 1), (20, .if_icmp .ge 33, 3), (23, .iload_n 3, 1), (24, .ifCond .eq 21, 3), (27, .aload_n 0, 1), (28, .iload 4, 2), (30, .invokevirtual 233, 3), (33, .aload_n 0, 1), (34, .iload_n 2, 1), (35, .invokevirtual 233, 3), (38, .if_icmp .eq 7, 3), (41, .iconst 1, 1), (42, .goto 4, 3), (45, .iconst 0, 1), (46, .istore_n 3, 1), (47, .iinc 4 1, 3), (50, .goto (-33), 3), (53, .iload_n 1, 1), (54, .iload_n 3, 1), (55, .ifCond .eq 7, 3), (58, .iconst 1, 1), (59, .goto 4, 3), (62, .iconst 0, 1), (63, .iadd, 1), (64, .istore_n 1, 1), (65, .iinc 2 1, 3), (68, .goto (-64), 3), (71, .iload_n 1, 1), (72, .ireturn, 1)] = true := by decide +kernel
theorem E237_0 {d sl : Nat} {p : Nat → Nat} {I : Nat → Nat → Int32} {J : Nat → Nat → Int64}   : den d 237 [.ref 46] (S sl p I J) = ev d 237 4 [.ref 46, .int 0, .int 0, .retAddr 0, .retAddr 0] [] (S sl p I J) := by
  refine (show den d 237 [.ref 46] (S sl p I J) = ev d 237 0 [.ref 46, .retAddr 0, .retAddr 0, .retAddr 0, .retAddr 0] [] (S sl p I J) from rfl).trans ?_
  refine (r_ic (dk D237 0 rfl) ci0).trans ?_
  refine (r_isn (L' := [.ref 46, .int 0, .retAddr 0, .retAddr 0, .retAddr 0]) (dk D237 1 rfl) (Nat.le_of_ble_eq_true rfl) rfl).trans ?_
  refine (r_ic (dk D237 2 rfl) ci0).trans ?_
  refine (r_isn (L' := [.ref 46, .int 0, .int 0, .retAddr 0, .retAddr 0]) (dk D237 3 rfl) (Nat.le_of_ble_eq_true rfl) rfl).trans ?_
  exact rfl
theorem E237_4 {d sl : Nat} {p : Nat → Nat} {I : Nat → Nat → Int32} {J : Nat → Nat → Int64} (l1 : Int32) (l2 : Int32)  : ev d 237 4 [.ref 46, .int l1, .int l2, .retAddr 0, .retAddr 0] [] (S sl p I J) = (if l2 < (I 46 2) then ev d 237 17 [.ref 46, .int l1, .int l2, .int 1, .int 0] [] (S sl p I J) else some (some (.int l1), (S sl p I J))) := by
  refine (r_iln (dk D237 4 rfl) rfl).trans ?_
  refine (r_aln (dk D237 5 rfl) rfl).trans ?_
  refine (r_getI (dk D237 6 rfl) ow237 q12_196 ob_46).trans ?_
  refine (r_ge (dk D237 7 rfl) rfl).trans (ite2 ?_ ?_)
  · refine (r_ic (dk D237 8 rfl) ci1).trans ?_
    refine (r_isn (L' := [.ref 46, .int l1, .int l2, .int 1, .retAddr 0]) (dk D237 9 rfl) (Nat.le_of_ble_eq_true rfl) rfl).trans ?_
    refine (r_ic (dk D237 10 rfl) ci0).trans ?_
    refine (r_is (L' := [.ref 46, .int l1, .int l2, .int 1, .int 0]) (dk D237 11 rfl) (Nat.le_of_ble_eq_true rfl) rfl).trans ?_
    exact rfl
  · refine (r_iln (dk D237 40 rfl) rfl).trans ?_
    exact r_ret (dk D237 41 rfl) rt237
theorem E237_17 {d sl : Nat} {p : Nat → Nat} {I : Nat → Nat → Int32} {J : Nat → Nat → Int64} (l1 : Int32) (l2 : Int32) (l3 : Int32) (l4 : Int32)  : ev (d + 1) 237 17 [.ref 46, .int l1, .int l2, .int l3, .int l4] [] (S sl p I J) = (if l4 < l2 then (if l3 = 0 then ev (d + 1) 237 17 [.ref 46, .int l1, .int l2, .int 0, .int (l4 + 1)] [] (S sl p I J) else evK (d + 1) 237 33 [.ref 46, .int l1, .int l2, .int l3, .int l4] [] (den d 207 [.ref 46, .int l4] (S sl p I J))) else (if l3 = 0 then ev (d + 1) 237 4 [.ref 46, .int (l1 + 0), .int (l2 + 1), .retAddr 0, .retAddr 0] [] (S sl p I J) else ev (d + 1) 237 4 [.ref 46, .int (l1 + 1), .int (l2 + 1), .retAddr 0, .retAddr 0] [] (S sl p I J))) := by
  refine (r_il (dk D237 12 rfl) rfl).trans ?_
  refine (r_iln (dk D237 13 rfl) rfl).trans ?_
  refine (r_ge (dk D237 14 rfl) rfl).trans (ite2 ?_ ?_)
  · refine (r_iln (dk D237 15 rfl) rfl).trans ?_
    refine (r_eq0 (dk D237 16 rfl) rfl).trans (ite2 ?_ ?_)
    · refine (r_ic (dk D237 26 rfl) ci0).trans ?_
      refine (r_isn (L' := [.ref 46, .int l1, .int l2, .int 0, .int l4]) (dk D237 27 rfl) (Nat.le_of_ble_eq_true rfl) rfl).trans ?_
      refine (r_inc (L' := [.ref 46, .int l1, .int l2, .int 0, .int (l4 + 1)]) (dk D237 28 rfl) rfl rfl ci1 (Nat.le_of_ble_eq_true rfl) rfl).trans ?_
      refine (r_goto (L' := [.ref 46, .int l1, .int l2, .int 0, .int (l4 + 1)]) (dk D237 29 rfl) rfl nd237_17 rfl).trans ?_
      exact rfl
    · refine (r_aln (dk D237 17 rfl) rfl).trans ?_
      refine (r_il (dk D237 18 rfl) rfl).trans ?_
      exact r_cv (dk D237 19 rfl) ow237 c12_233 mf207 (Nat.le_of_ble_eq_true rfl) rfl rfl (Nat.le_of_ble_eq_true rfl) (Nat.le_of_ble_eq_true rfl) ob_46
  · refine (r_iln (dk D237 30 rfl) rfl).trans ?_
    refine (r_iln (dk D237 31 rfl) rfl).trans ?_
    refine (r_eq0 (dk D237 32 rfl) rfl).trans (ite2 ?_ ?_)
    · refine (r_ic (dk D237 35 rfl) ci0).trans ?_
      refine (r_iadd (dk D237 36 rfl)).trans ?_
      refine (r_isn (L' := [.ref 46, .int (l1 + 0), .int l2, .int l3, .int l4]) (dk D237 37 rfl) (Nat.le_of_ble_eq_true rfl) rfl).trans ?_
      refine (r_inc (L' := [.ref 46, .int (l1 + 0), .int (l2 + 1), .int l3, .int l4]) (dk D237 38 rfl) rfl rfl ci1 (Nat.le_of_ble_eq_true rfl) rfl).trans ?_
      refine (r_goto (L' := [.ref 46, .int (l1 + 0), .int (l2 + 1), .retAddr 0, .retAddr 0]) (dk D237 39 rfl) rfl nd237_4 rfl).trans ?_
      exact rfl
    · refine (r_ic (dk D237 33 rfl) ci1).trans ?_
      refine (r_goto (L' := [.ref 46, .int l1, .int l2, .int l3, .int l4]) (dk D237 34 rfl) rfl nd237_63 rfl).trans ?_
      refine (r_iadd (dk D237 36 rfl)).trans ?_
      refine (r_isn (L' := [.ref 46, .int (l1 + 1), .int l2, .int l3, .int l4]) (dk D237 37 rfl) (Nat.le_of_ble_eq_true rfl) rfl).trans ?_
      refine (r_inc (L' := [.ref 46, .int (l1 + 1), .int (l2 + 1), .int l3, .int l4]) (dk D237 38 rfl) rfl rfl ci1 (Nat.le_of_ble_eq_true rfl) rfl).trans ?_
      refine (r_goto (L' := [.ref 46, .int (l1 + 1), .int (l2 + 1), .retAddr 0, .retAddr 0]) (dk D237 39 rfl) rfl nd237_4 rfl).trans ?_
      exact rfl
theorem E237_33 {d sl : Nat} {p : Nat → Nat} {I : Nat → Nat → Int32} {J : Nat → Nat → Int64} (l1 : Int32) (l2 : Int32) (l3 : Int32) (l4 : Int32) (s0 : Int32)  : ev (d + 1) 237 33 [.ref 46, .int l1, .int l2, .int l3, .int l4] [.int s0] (S sl p I J) = evK (d + 1) 237 38 [.ref 46, .int l1, .int l2, .int l3, .int l4] [.int s0] (den d 207 [.ref 46, .int l2] (S sl p I J)) := by
  refine (r_aln (dk D237 20 rfl) rfl).trans ?_
  refine (r_iln (dk D237 21 rfl) rfl).trans ?_
  exact r_cv (dk D237 22 rfl) ow237 c12_233 mf207 (Nat.le_of_ble_eq_true rfl) rfl rfl (Nat.le_of_ble_eq_true rfl) (Nat.le_of_ble_eq_true rfl) ob_46
theorem E237_38 {d sl : Nat} {p : Nat → Nat} {I : Nat → Nat → Int32} {J : Nat → Nat → Int64} (l1 : Int32) (l2 : Int32) (l3 : Int32) (l4 : Int32) (s0 : Int32) (s1 : Int32)  : ev d 237 38 [.ref 46, .int l1, .int l2, .int l3, .int l4] [.int s0, .int s1] (S sl p I J) = (if s1 = s0 then ev d 237 17 [.ref 46, .int l1, .int l2, .int 0, .int (l4 + 1)] [] (S sl p I J) else ev d 237 17 [.ref 46, .int l1, .int l2, .int 1, .int (l4 + 1)] [] (S sl p I J)) := by
  refine (r_eq (dk D237 23 rfl) rfl).trans (ite2 ?_ ?_)
  · refine (r_ic (dk D237 26 rfl) ci0).trans ?_
    refine (r_isn (L' := [.ref 46, .int l1, .int l2, .int 0, .int l4]) (dk D237 27 rfl) (Nat.le_of_ble_eq_true rfl) rfl).trans ?_
    refine (r_inc (L' := [.ref 46, .int l1, .int l2, .int 0, .int (l4 + 1)]) (dk D237 28 rfl) rfl rfl ci1 (Nat.le_of_ble_eq_true rfl) rfl).trans ?_
    refine (r_goto (L' := [.ref 46, .int l1, .int l2, .int 0, .int (l4 + 1)]) (dk D237 29 rfl) rfl nd237_17 rfl).trans ?_
    exact rfl
  · refine (r_ic (dk D237 24 rfl) ci1).trans ?_
    refine (r_goto (L' := [.ref 46, .int l1, .int l2, .int l3, .int l4]) (dk D237 25 rfl) rfl nd237_46 rfl).trans ?_
    refine (r_isn (L' := [.ref 46, .int l1, .int l2, .int 1, .int l4]) (dk D237 27 rfl) (Nat.le_of_ble_eq_true rfl) rfl).trans ?_
    refine (r_inc (L' := [.ref 46, .int l1, .int l2, .int 1, .int (l4 + 1)]) (dk D237 28 rfl) rfl rfl ci1 (Nat.le_of_ble_eq_true rfl) rfl).trans ?_
    refine (r_goto (L' := [.ref 46, .int l1, .int l2, .int 1, .int (l4 + 1)]) (dk D237 29 rfl) rfl nd237_17 rfl).trans ?_
    exact rfl
set_option maxRecDepth 20000 in
theorem D238 : dOK 238 [(0, .aload_n 0, 1), (1, .invokevirtual 216, 3), (4, .iload_n 1, 1), (5, .tableswitch 81 0 4 #[35, 44, 53, 62, 71], 35), (40, .aload_n 0, 1), (41, .aload_n 0, 1), (42, .getfield 186, 3), (45, .invokevirtual 193, 3), (48, .ireturn, 1), (49, .aload_n 0, 1), (50, .aload_n 0, 1), (51, .getfield 196, 3), (54, .invokevirtual 193, 3), (57, .ireturn, 1), (58, .aload_n 0, 1), (59, .aload_n 0, 1), (60, .invokevirtual 327, 3), (63, .invokevirtual 193, 3), (66, .ireturn, 1), (67, .aload_n 0, 1), (68, .aload_n 0, 1), (69, .getfield 244, 3), (72, .invokevirtual 193, 3), (75, .ireturn, 1), (76, .aload_n 0, 1), (77, .aload_n 0, 1), (78, .iconst (-1), 1), (79, .invokevirtual 330, 3), (82, .invokevirtual 193, 3), (85, .ireturn, 1), (86, .aload_n 0, 1), (87, .iconst 1, 1), (88, .invokevirtual 183, 3), (91, .ireturn, 1)] = true := by decide +kernel
theorem E238_0 {d sl : Nat} {p : Nat → Nat} {I : Nat → Nat → Int32} {J : Nat → Nat → Int64} (a1 : Int32)  : den (d + 1) 238 [.ref 46, .int a1] (S sl p I J) = evK (d + 1) 238 4 [.ref 46, .int a1] [] (den d 210 [.ref 46] (S sl p I J)) := by
  refine (show den (d + 1) 238 [.ref 46, .int a1] (S sl p I J) = ev (d + 1) 238 0 [.ref 46, .int a1] [] (S sl p I J) from rfl).trans ?_
  refine (r_aln (dk D238 0 rfl) rfl).trans ?_
  exact r_cv (dk D238 1 rfl) ow238 c12_216 mf210 (Nat.le_of_ble_eq_true rfl) rfl rfl (Nat.le_of_ble_eq_true rfl) (Nat.le_of_ble_eq_true rfl) ob_46
theorem E238_4 {d sl : Nat} {p : Nat → Nat} {I : Nat → Nat → Int32} {J : Nat → Nat → Int64} (l1 : Int32)  : ev (d + 1) 238 4 [.ref 46, .int l1] [] (S sl p I J) = (if l1 = 0 then evK (d + 1) 238 48 [.ref 46, .int l1] [] (den d 179 [.ref 46, .int (I 46 1)] (S sl p I J)) else (if l1 = 1 then evK (d + 1) 238 57 [.ref 46, .int l1] [] (den d 179 [.ref 46, .int (I 46 2)] (S sl p I J)) else (if l1 = 2 then evK (d + 1) 238 63 [.ref 46, .int l1] [.ref 46] (den d 237 [.ref 46] (S sl p I J)) else (if l1 = 3 then evK (d + 1) 238 75 [.ref 46, .int l1] [] (den d 179 [.ref 46, .int (I 46 31)] (S sl p I J)) else (if l1 = 4 then evK (d + 1) 238 82 [.ref 46, .int l1] [.ref 46] (den d 211 [.ref 46, .int (-1)] (S sl p I J)) else evK (d + 1) 238 91 [.ref 46, .int l1] [] (den d 178 [.ref 46, .int 1] (S sl p I J))))))) := by
  refine (r_iln (dk D238 2 rfl) rfl).trans ?_
  by_cases hs0 : l1 = 0
  · rw [if_pos hs0]
    refine (r_sw (t := 40) (dk D238 3 rfl) (by rw [hs0]; rfl)).trans ?_
    refine (r_aln (dk D238 4 rfl) rfl).trans ?_
    refine (r_aln (dk D238 5 rfl) rfl).trans ?_
    refine (r_getI (dk D238 6 rfl) ow238 q12_186 ob_46).trans ?_
    exact r_cv (dk D238 7 rfl) ow238 c12_193 mf179 (Nat.le_of_ble_eq_true rfl) rfl rfl (Nat.le_of_ble_eq_true rfl) (Nat.le_of_ble_eq_true rfl) ob_46
  rw [if_neg hs0]
  by_cases hs1 : l1 = 1
  · rw [if_pos hs1]
    refine (r_sw (t := 49) (dk D238 3 rfl) (by rw [hs1]; rfl)).trans ?_
    refine (r_aln (dk D238 9 rfl) rfl).trans ?_
    refine (r_aln (dk D238 10 rfl) rfl).trans ?_
    refine (r_getI (dk D238 11 rfl) ow238 q12_196 ob_46).trans ?_
    exact r_cv (dk D238 12 rfl) ow238 c12_193 mf179 (Nat.le_of_ble_eq_true rfl) rfl rfl (Nat.le_of_ble_eq_true rfl) (Nat.le_of_ble_eq_true rfl) ob_46
  rw [if_neg hs1]
  by_cases hs2 : l1 = 2
  · rw [if_pos hs2]
    refine (r_sw (t := 58) (dk D238 3 rfl) (by rw [hs2]; rfl)).trans ?_
    refine (r_aln (dk D238 14 rfl) rfl).trans ?_
    refine (r_aln (dk D238 15 rfl) rfl).trans ?_
    exact r_cv (dk D238 16 rfl) ow238 c12_327 mf237 (Nat.le_of_ble_eq_true rfl) rfl rfl (Nat.le_of_ble_eq_true rfl) (Nat.le_of_ble_eq_true rfl) ob_46
  rw [if_neg hs2]
  by_cases hs3 : l1 = 3
  · rw [if_pos hs3]
    refine (r_sw (t := 67) (dk D238 3 rfl) (by rw [hs3]; rfl)).trans ?_
    refine (r_aln (dk D238 19 rfl) rfl).trans ?_
    refine (r_aln (dk D238 20 rfl) rfl).trans ?_
    refine (r_getI (dk D238 21 rfl) ow238 q12_244 ob_46).trans ?_
    exact r_cv (dk D238 22 rfl) ow238 c12_193 mf179 (Nat.le_of_ble_eq_true rfl) rfl rfl (Nat.le_of_ble_eq_true rfl) (Nat.le_of_ble_eq_true rfl) ob_46
  rw [if_neg hs3]
  by_cases hs4 : l1 = 4
  · rw [if_pos hs4]
    refine (r_sw (t := 76) (dk D238 3 rfl) (by rw [hs4]; rfl)).trans ?_
    refine (r_aln (dk D238 24 rfl) rfl).trans ?_
    refine (r_aln (dk D238 25 rfl) rfl).trans ?_
    refine (r_ic (dk D238 26 rfl) cim1).trans ?_
    exact r_cv (dk D238 27 rfl) ow238 c12_330 mf211 (Nat.le_of_ble_eq_true rfl) rfl rfl (Nat.le_of_ble_eq_true rfl) (Nat.le_of_ble_eq_true rfl) ob_46
  rw [if_neg hs4]
  refine (r_swd (t := 86) (dk D238 3 rfl) (swd_5 hs0 hs1 hs2 hs3 hs4) rfl).trans ?_
  refine (r_aln (dk D238 30 rfl) rfl).trans ?_
  refine (r_ic (dk D238 31 rfl) ci1).trans ?_
  exact r_cv (dk D238 32 rfl) ow238 c12_183 mf178 (Nat.le_of_ble_eq_true rfl) rfl rfl (Nat.le_of_ble_eq_true rfl) (Nat.le_of_ble_eq_true rfl) ob_46
theorem E238_48 {d sl : Nat} {p : Nat → Nat} {I : Nat → Nat → Int32} {J : Nat → Nat → Int64} (l1 : Int32) (s0 : Int32)  : ev d 238 48 [.ref 46, .int l1] [.int s0] (S sl p I J) = some (some (.int s0), (S sl p I J)) := by
  exact r_ret (dk D238 8 rfl) rt238
theorem E238_57 {d sl : Nat} {p : Nat → Nat} {I : Nat → Nat → Int32} {J : Nat → Nat → Int64} (l1 : Int32) (s0 : Int32)  : ev d 238 57 [.ref 46, .int l1] [.int s0] (S sl p I J) = some (some (.int s0), (S sl p I J)) := by
  exact r_ret (dk D238 13 rfl) rt238
theorem E238_63 {d sl : Nat} {p : Nat → Nat} {I : Nat → Nat → Int32} {J : Nat → Nat → Int64} (l1 : Int32) (s0 : Int32)  : ev (d + 1) 238 63 [.ref 46, .int l1] [.int s0, .ref 46] (S sl p I J) = evK (d + 1) 238 66 [.ref 46, .int l1] [] (den d 179 [.ref 46, .int s0] (S sl p I J)) := by
  exact r_cv (dk D238 17 rfl) ow238 c12_193 mf179 (Nat.le_of_ble_eq_true rfl) rfl rfl (Nat.le_of_ble_eq_true rfl) (Nat.le_of_ble_eq_true rfl) ob_46
theorem E238_66 {d sl : Nat} {p : Nat → Nat} {I : Nat → Nat → Int32} {J : Nat → Nat → Int64} (l1 : Int32) (s0 : Int32)  : ev d 238 66 [.ref 46, .int l1] [.int s0] (S sl p I J) = some (some (.int s0), (S sl p I J)) := by
  exact r_ret (dk D238 18 rfl) rt238
theorem E238_75 {d sl : Nat} {p : Nat → Nat} {I : Nat → Nat → Int32} {J : Nat → Nat → Int64} (l1 : Int32) (s0 : Int32)  : ev d 238 75 [.ref 46, .int l1] [.int s0] (S sl p I J) = some (some (.int s0), (S sl p I J)) := by
  exact r_ret (dk D238 23 rfl) rt238
theorem E238_82 {d sl : Nat} {p : Nat → Nat} {I : Nat → Nat → Int32} {J : Nat → Nat → Int64} (l1 : Int32) (s0 : Int32)  : ev (d + 1) 238 82 [.ref 46, .int l1] [.int s0, .ref 46] (S sl p I J) = evK (d + 1) 238 85 [.ref 46, .int l1] [] (den d 179 [.ref 46, .int s0] (S sl p I J)) := by
  exact r_cv (dk D238 28 rfl) ow238 c12_193 mf179 (Nat.le_of_ble_eq_true rfl) rfl rfl (Nat.le_of_ble_eq_true rfl) (Nat.le_of_ble_eq_true rfl) ob_46
theorem E238_85 {d sl : Nat} {p : Nat → Nat} {I : Nat → Nat → Int32} {J : Nat → Nat → Int64} (l1 : Int32) (s0 : Int32)  : ev d 238 85 [.ref 46, .int l1] [.int s0] (S sl p I J) = some (some (.int s0), (S sl p I J)) := by
  exact r_ret (dk D238 29 rfl) rt238
theorem E238_91 {d sl : Nat} {p : Nat → Nat} {I : Nat → Nat → Int32} {J : Nat → Nat → Int64} (l1 : Int32) (s0 : Int32)  : ev d 238 91 [.ref 46, .int l1] [.int s0] (S sl p I J) = some (some (.int s0), (S sl p I J)) := by
  exact r_ret (dk D238 33 rfl) rt238
set_option maxRecDepth 20000 in
theorem D239 : dOK 239 [(0, .iconst 0, 1), (1, .istore_n 2, 1), (2, .iconst 0, 1), (3, .istore_n 3, 1), (4, .iload_n 3, 1), (5, .aload_n 0, 1), (6, .getfield 196, 3), (9, .if_icmp .ge 30, 3), (12, .iload_n 2, 1), (13, .aload_n 0, 1), (14, .iload_n 3, 1), (15, .invokevirtual 233, 3), (18, .aload_n 0, 1), (19, .iload_n 1, 1), (20, .invokevirtual 233, 3), (23, .if_icmp .ne 7, 3), (26, .iconst 1, 1), (27, .goto 4, 3), (30, .iconst 0, 1), (31, .iadd, 1), (32, .istore_n 2, 1), (33, .iinc 3 1, 3), (36, .goto (-32), 3), (39, .iload_n 2, 1), (40, .ireturn, 1)] = true := by decide +kernel
theorem E239_0 {d sl : Nat} {p : Nat → Nat} {I : Nat → Nat → Int32} {J : Nat → Nat → Int64} (a1 : Int32)  : den d 239 [.ref 46, .int a1] (S sl p I J) = ev d 239 4 [.ref 46, .int a1, .int 0, .int 0] [] (S sl p I J) := by
  refine (show den d 239 [.ref 46, .int a1] (S sl p I J) = ev d 239 0 [.ref 46, .int a1, .retAddr 0, .retAddr 0] [] (S sl p I J) from rfl).trans ?_
  refine (r_ic (dk D239 0 rfl) ci0).trans ?_
  refine (r_isn (L' := [.ref 46, .int a1, .int 0, .retAddr 0]) (dk D239 1 rfl) (Nat.le_of_ble_eq_true rfl) rfl).trans ?_
  refine (r_ic (dk D239 2 rfl) ci0).trans ?_
  refine (r_isn (L' := [.ref 46, .int a1, .int 0, .int 0]) (dk D239 3 rfl) (Nat.le_of_ble_eq_true rfl) rfl).trans ?_
  exact rfl
theorem E239_4 {d sl : Nat} {p : Nat → Nat} {I : Nat → Nat → Int32} {J : Nat → Nat → Int64} (l1 : Int32) (l2 : Int32) (l3 : Int32)  : ev (d + 1) 239 4 [.ref 46, .int l1, .int l2, .int l3] [] (S sl p I J) = (if l3 < (I 46 2) then evK (d + 1) 239 18 [.ref 46, .int l1, .int l2, .int l3] [.int l2] (den d 207 [.ref 46, .int l3] (S sl p I J)) else some (some (.int l2), (S sl p I J))) := by
  refine (r_iln (dk D239 4 rfl) rfl).trans ?_
  refine (r_aln (dk D239 5 rfl) rfl).trans ?_
  refine (r_getI (dk D239 6 rfl) ow239 q12_196 ob_46).trans ?_
  refine (r_ge (dk D239 7 rfl) rfl).trans (ite2 ?_ ?_)
  · refine (r_iln (dk D239 8 rfl) rfl).trans ?_
    refine (r_aln (dk D239 9 rfl) rfl).trans ?_
    refine (r_iln (dk D239 10 rfl) rfl).trans ?_
    exact r_cv (dk D239 11 rfl) ow239 c12_233 mf207 (Nat.le_of_ble_eq_true rfl) rfl rfl (Nat.le_of_ble_eq_true rfl) (Nat.le_of_ble_eq_true rfl) ob_46
  · refine (r_iln (dk D239 23 rfl) rfl).trans ?_
    exact r_ret (dk D239 24 rfl) rt239
theorem E239_18 {d sl : Nat} {p : Nat → Nat} {I : Nat → Nat → Int32} {J : Nat → Nat → Int64} (l1 : Int32) (l2 : Int32) (l3 : Int32) (s0 : Int32) (s1 : Int32)  : ev (d + 1) 239 18 [.ref 46, .int l1, .int l2, .int l3] [.int s0, .int s1] (S sl p I J) = evK (d + 1) 239 23 [.ref 46, .int l1, .int l2, .int l3] [.int s0, .int s1] (den d 207 [.ref 46, .int l1] (S sl p I J)) := by
  refine (r_aln (dk D239 12 rfl) rfl).trans ?_
  refine (r_iln (dk D239 13 rfl) rfl).trans ?_
  exact r_cv (dk D239 14 rfl) ow239 c12_233 mf207 (Nat.le_of_ble_eq_true rfl) rfl rfl (Nat.le_of_ble_eq_true rfl) (Nat.le_of_ble_eq_true rfl) ob_46
theorem E239_23 {d sl : Nat} {p : Nat → Nat} {I : Nat → Nat → Int32} {J : Nat → Nat → Int64} (l1 : Int32) (l2 : Int32) (l3 : Int32) (s0 : Int32) (s1 : Int32) (s2 : Int32)  : ev d 239 23 [.ref 46, .int l1, .int l2, .int l3] [.int s0, .int s1, .int s2] (S sl p I J) = (if s1 = s0 then ev d 239 4 [.ref 46, .int l1, .int (s2 + 1), .int (l3 + 1)] [] (S sl p I J) else ev d 239 4 [.ref 46, .int l1, .int (s2 + 0), .int (l3 + 1)] [] (S sl p I J)) := by
  refine (r_ne (dk D239 15 rfl) rfl).trans (ite2 ?_ ?_)
  · refine (r_ic (dk D239 16 rfl) ci1).trans ?_
    refine (r_goto (L' := [.ref 46, .int l1, .int l2, .int l3]) (dk D239 17 rfl) rfl nd239_31 rfl).trans ?_
    refine (r_iadd (dk D239 19 rfl)).trans ?_
    refine (r_isn (L' := [.ref 46, .int l1, .int (s2 + 1), .int l3]) (dk D239 20 rfl) (Nat.le_of_ble_eq_true rfl) rfl).trans ?_
    refine (r_inc (L' := [.ref 46, .int l1, .int (s2 + 1), .int (l3 + 1)]) (dk D239 21 rfl) rfl rfl ci1 (Nat.le_of_ble_eq_true rfl) rfl).trans ?_
    refine (r_goto (L' := [.ref 46, .int l1, .int (s2 + 1), .int (l3 + 1)]) (dk D239 22 rfl) rfl nd239_4 rfl).trans ?_
    exact rfl
  · refine (r_ic (dk D239 18 rfl) ci0).trans ?_
    refine (r_iadd (dk D239 19 rfl)).trans ?_
    refine (r_isn (L' := [.ref 46, .int l1, .int (s2 + 0), .int l3]) (dk D239 20 rfl) (Nat.le_of_ble_eq_true rfl) rfl).trans ?_
    refine (r_inc (L' := [.ref 46, .int l1, .int (s2 + 0), .int (l3 + 1)]) (dk D239 21 rfl) rfl rfl ci1 (Nat.le_of_ble_eq_true rfl) rfl).trans ?_
    refine (r_goto (L' := [.ref 46, .int l1, .int (s2 + 0), .int (l3 + 1)]) (dk D239 22 rfl) rfl nd239_4 rfl).trans ?_
    exact rfl
set_option maxRecDepth 20000 in
theorem D240 : dOK 240 [(0, .iload_n 2, 1), (1, .iconst 0, 1), (2, .bipush 9, 2), (4, .invokestatic 178, 3), (7, .ifCond .ne 9, 3), (10, .aload_n 0, 1), (11, .iconst 1, 1), (12, .invokevirtual 183, 3), (15, .ireturn, 1), (16, .aload_n 0, 1), (17, .iload_n 1, 1), (18, .invokevirtual 210, 3), (21, .ifCond .ne 9, 3), (24, .aload_n 0, 1), (25, .iconst 2, 1), (26, .invokevirtual 183, 3), (29, .ireturn, 1), (30, .iload_n 2, 1), (31, .tableswitch 146 0 8 #[49, 60, 71, 82, 93, 104, 115, 126, 136], 49), (80, .aload_n 0, 1), (81, .aload_n 0, 1), (82, .getfield 38, 3), (85, .iload_n 1, 1), (86, .iaload, 1), (87, .invokevirtual 193, 3), (90, .ireturn, 1), (91, .aload_n 0, 1), (92, .aload_n 0, 1), (93, .getfield 41, 3), (96, .iload_n 1, 1), (97, .iaload, 1), (98, .invokevirtual 193, 3), (101, .ireturn, 1), (102, .aload_n 0, 1), (103, .aload_n 0, 1), (104, .getfield 44, 3), (107, .iload_n 1, 1), (108, .iaload, 1), (109, .invokevirtual 193, 3), (112, .ireturn, 1), (113, .aload_n 0, 1), (114, .aload_n 0, 1), (115, .getfield 47, 3), (118, .iload_n 1, 1), (119, .iaload, 1), (120, .invokevirtual 193, 3), (123, .ireturn, 1), (124, .aload_n 0, 1), (125, .aload_n 0, 1), (126, .getfield 50, 3), (129, .iload_n 1, 1), (130, .iaload, 1), (131, .invokevirtual 193, 3), (134, .ireturn, 1), (135, .aload_n 0, 1), (136, .aload_n 0, 1), (137, .getfield 53, 3), (140, .iload_n 1, 1), (141, .iaload, 1), (142, .invokevirtual 193, 3), (145, .ireturn, 1), (146, .aload_n 0, 1), (147, .aload_n 0, 1), (148, .getfield 56, 3), (151, .iload_n 1, 1), (152, .iaload, 1), (153, .invokevirtual 193, 3), (156, .ireturn, 1), (157, .aload_n 0, 1), (158, .aload_n 0, 1), (159, .iload_n 1, 1), (160, .invokevirtual 266, 3), (163, .invokevirtual 193, 3), (166, .ireturn, 1), (167, .aload_n 0, 1), (168, .aload_n 0, 1), (169, .iload_n 1, 1), (170, .invokevirtual 333, 3), (173, .invokevirtual 193, 3), (176, .ireturn, 1), (177, .aload_n 0, 1), (178, .invokevirtual 216, 3), (181, .aload_n 0, 1), (182, .aload_n 0, 1), (183, .getfield 71, 3), (186, .iload_n 1, 1), (187, .iaload, 1), (188, .invokevirtual 193, 3), (191, .ireturn, 1)] = true := by decide +kernel
theorem E240_0 {d sl : Nat} {p : Nat → Nat} {I : Nat → Nat → Int32} {J : Nat → Nat → Int64} (a1 : Int32) (a2 : Int32)  : den (d + 1) 240 [.ref 46, .int a1, .int a2] (S sl p I J) = evK (d + 1) 240 7 [.ref 46, .int a1, .int a2] [] (den d 181 [.int a2, .int 0, .int 9] (S sl p I J)) := by
  refine (show den (d + 1) 240 [.ref 46, .int a1, .int a2] (S sl p I J) = ev (d + 1) 240 0 [.ref 46, .int a1, .int a2] [] (S sl p I J) from rfl).trans ?_
  refine (r_iln (dk D240 0 rfl) rfl).trans ?_
  refine (r_ic (dk D240 1 rfl) ci0).trans ?_
  refine (r_bp (dk D240 2 rfl) cb9).trans ?_
  exact r_cs (dk D240 3 rfl) ow240 pn12_178 c12_178 mf181 (Nat.le_of_ble_eq_true rfl) rfl rfl (Nat.le_of_ble_eq_true rfl) (Nat.le_of_ble_eq_true rfl)
theorem E240_7 {d sl : Nat} {p : Nat → Nat} {I : Nat → Nat → Int32} {J : Nat → Nat → Int64} (l1 : Int32) (l2 : Int32) (s0 : Int32)  : ev (d + 1) 240 7 [.ref 46, .int l1, .int l2] [.int s0] (S sl p I J) = (if s0 = 0 then evK (d + 1) 240 15 [.ref 46, .int l1, .int l2] [] (den d 178 [.ref 46, .int 1] (S sl p I J)) else evK (d + 1) 240 21 [.ref 46, .int l1, .int l2] [] (den d 201 [.ref 46, .int l1] (S sl p I J))) := by
  refine (r_ne0 (dk D240 4 rfl) rfl).trans (ite2 ?_ ?_)
  · refine (r_aln (dk D240 5 rfl) rfl).trans ?_
    refine (r_ic (dk D240 6 rfl) ci1).trans ?_
    exact r_cv (dk D240 7 rfl) ow240 c12_183 mf178 (Nat.le_of_ble_eq_true rfl) rfl rfl (Nat.le_of_ble_eq_true rfl) (Nat.le_of_ble_eq_true rfl) ob_46
  · refine (r_aln (dk D240 9 rfl) rfl).trans ?_
    refine (r_iln (dk D240 10 rfl) rfl).trans ?_
    exact r_cv (dk D240 11 rfl) ow240 c12_210 mf201 (Nat.le_of_ble_eq_true rfl) rfl rfl (Nat.le_of_ble_eq_true rfl) (Nat.le_of_ble_eq_true rfl) ob_46
theorem E240_15 {d sl : Nat} {p : Nat → Nat} {I : Nat → Nat → Int32} {J : Nat → Nat → Int64} (l1 : Int32) (l2 : Int32) (s0 : Int32)  : ev d 240 15 [.ref 46, .int l1, .int l2] [.int s0] (S sl p I J) = some (some (.int s0), (S sl p I J)) := by
  exact r_ret (dk D240 8 rfl) rt240
theorem E240_21 {d sl : Nat} {p : Nat → Nat} {I : Nat → Nat → Int32} {J : Nat → Nat → Int64} (l1 : Int32) (l2 : Int32) (s0 : Int32)  : ev (d + 1) 240 21 [.ref 46, .int l1, .int l2] [.int s0] (S sl p I J) = (if s0 = 0 then evK (d + 1) 240 29 [.ref 46, .int l1, .int l2] [] (den d 178 [.ref 46, .int 2] (S sl p I J)) else (if l2 = 0 then ck (ixb 60 l1) (evK (d + 1) 240 90 [.ref 46, .int l1, .int l2] [] (den d 179 [.ref 46, .int (I 50 (Int32.toNatClampNeg l1))] (S sl p I J))) else (if l2 = 1 then ck (ixb 60 l1) (evK (d + 1) 240 101 [.ref 46, .int l1, .int l2] [] (den d 179 [.ref 46, .int (I 51 (Int32.toNatClampNeg l1))] (S sl p I J))) else (if l2 = 2 then ck (ixb 60 l1) (evK (d + 1) 240 112 [.ref 46, .int l1, .int l2] [] (den d 179 [.ref 46, .int (I 52 (Int32.toNatClampNeg l1))] (S sl p I J))) else (if l2 = 3 then ck (ixb 60 l1) (evK (d + 1) 240 123 [.ref 46, .int l1, .int l2] [] (den d 179 [.ref 46, .int (I 53 (Int32.toNatClampNeg l1))] (S sl p I J))) else (if l2 = 4 then ck (ixb 60 l1) (evK (d + 1) 240 134 [.ref 46, .int l1, .int l2] [] (den d 179 [.ref 46, .int (I 54 (Int32.toNatClampNeg l1))] (S sl p I J))) else (if l2 = 5 then ck (ixb 60 l1) (evK (d + 1) 240 145 [.ref 46, .int l1, .int l2] [] (den d 179 [.ref 46, .int (I 55 (Int32.toNatClampNeg l1))] (S sl p I J))) else (if l2 = 6 then ck (ixb 60 l1) (evK (d + 1) 240 156 [.ref 46, .int l1, .int l2] [] (den d 179 [.ref 46, .int (I 56 (Int32.toNatClampNeg l1))] (S sl p I J))) else (if l2 = 7 then evK (d + 1) 240 163 [.ref 46, .int l1, .int l2] [.ref 46] (den d 197 [.ref 46, .int l1] (S sl p I J)) else (if l2 = 8 then evK (d + 1) 240 173 [.ref 46, .int l1, .int l2] [.ref 46] (den d 239 [.ref 46, .int l1] (S sl p I J)) else evK (d + 1) 240 181 [.ref 46, .int l1, .int l2] [] (den d 210 [.ref 46] (S sl p I J)))))))))))) := by
  refine (r_ne0 (dk D240 12 rfl) rfl).trans (ite2 ?_ ?_)
  · refine (r_aln (dk D240 13 rfl) rfl).trans ?_
    refine (r_ic (dk D240 14 rfl) ci2).trans ?_
    exact r_cv (dk D240 15 rfl) ow240 c12_183 mf178 (Nat.le_of_ble_eq_true rfl) rfl rfl (Nat.le_of_ble_eq_true rfl) (Nat.le_of_ble_eq_true rfl) ob_46
  · refine (r_iln (dk D240 17 rfl) rfl).trans ?_
    by_cases hs0 : l2 = 0
    · rw [if_pos hs0]
      refine (r_sw (t := 80) (dk D240 18 rfl) (by rw [hs0]; rfl)).trans ?_
      refine (r_aln (dk D240 19 rfl) rfl).trans ?_
      refine (r_aln (dk D240 20 rfl) rfl).trans ?_
      refine (r_getR (dk D240 21 rfl) ow240 q12_38 ob_46 rfl).trans ?_
      refine (r_iln (dk D240 22 rfl) rfl).trans ?_
      refine (r_ild (dk D240 23 rfl) ar_50).trans (ck3 fun g1 => ?_)
      exact r_cv (dk D240 24 rfl) ow240 c12_193 mf179 (Nat.le_of_ble_eq_true rfl) rfl rfl (Nat.le_of_ble_eq_true rfl) (Nat.le_of_ble_eq_true rfl) ob_46
    rw [if_neg hs0]
    by_cases hs1 : l2 = 1
    · rw [if_pos hs1]
      refine (r_sw (t := 91) (dk D240 18 rfl) (by rw [hs1]; rfl)).trans ?_
      refine (r_aln (dk D240 26 rfl) rfl).trans ?_
      refine (r_aln (dk D240 27 rfl) rfl).trans ?_
      refine (r_getR (dk D240 28 rfl) ow240 q12_41 ob_46 rfl).trans ?_
      refine (r_iln (dk D240 29 rfl) rfl).trans ?_
      refine (r_ild (dk D240 30 rfl) ar_51).trans (ck3 fun g2 => ?_)
      exact r_cv (dk D240 31 rfl) ow240 c12_193 mf179 (Nat.le_of_ble_eq_true rfl) rfl rfl (Nat.le_of_ble_eq_true rfl) (Nat.le_of_ble_eq_true rfl) ob_46
    rw [if_neg hs1]
    by_cases hs2 : l2 = 2
    · rw [if_pos hs2]
      refine (r_sw (t := 102) (dk D240 18 rfl) (by rw [hs2]; rfl)).trans ?_
      refine (r_aln (dk D240 33 rfl) rfl).trans ?_
      refine (r_aln (dk D240 34 rfl) rfl).trans ?_
      refine (r_getR (dk D240 35 rfl) ow240 q12_44 ob_46 rfl).trans ?_
      refine (r_iln (dk D240 36 rfl) rfl).trans ?_
      refine (r_ild (dk D240 37 rfl) ar_52).trans (ck3 fun g3 => ?_)
      exact r_cv (dk D240 38 rfl) ow240 c12_193 mf179 (Nat.le_of_ble_eq_true rfl) rfl rfl (Nat.le_of_ble_eq_true rfl) (Nat.le_of_ble_eq_true rfl) ob_46
    rw [if_neg hs2]
    by_cases hs3 : l2 = 3
    · rw [if_pos hs3]
      refine (r_sw (t := 113) (dk D240 18 rfl) (by rw [hs3]; rfl)).trans ?_
      refine (r_aln (dk D240 40 rfl) rfl).trans ?_
      refine (r_aln (dk D240 41 rfl) rfl).trans ?_
      refine (r_getR (dk D240 42 rfl) ow240 q12_47 ob_46 rfl).trans ?_
      refine (r_iln (dk D240 43 rfl) rfl).trans ?_
      refine (r_ild (dk D240 44 rfl) ar_53).trans (ck3 fun g4 => ?_)
      exact r_cv (dk D240 45 rfl) ow240 c12_193 mf179 (Nat.le_of_ble_eq_true rfl) rfl rfl (Nat.le_of_ble_eq_true rfl) (Nat.le_of_ble_eq_true rfl) ob_46
    rw [if_neg hs3]
    by_cases hs4 : l2 = 4
    · rw [if_pos hs4]
      refine (r_sw (t := 124) (dk D240 18 rfl) (by rw [hs4]; rfl)).trans ?_
      refine (r_aln (dk D240 47 rfl) rfl).trans ?_
      refine (r_aln (dk D240 48 rfl) rfl).trans ?_
      refine (r_getR (dk D240 49 rfl) ow240 q12_50 ob_46 rfl).trans ?_
      refine (r_iln (dk D240 50 rfl) rfl).trans ?_
      refine (r_ild (dk D240 51 rfl) ar_54).trans (ck3 fun g5 => ?_)
      exact r_cv (dk D240 52 rfl) ow240 c12_193 mf179 (Nat.le_of_ble_eq_true rfl) rfl rfl (Nat.le_of_ble_eq_true rfl) (Nat.le_of_ble_eq_true rfl) ob_46
    rw [if_neg hs4]
    by_cases hs5 : l2 = 5
    · rw [if_pos hs5]
      refine (r_sw (t := 135) (dk D240 18 rfl) (by rw [hs5]; rfl)).trans ?_
      refine (r_aln (dk D240 54 rfl) rfl).trans ?_
      refine (r_aln (dk D240 55 rfl) rfl).trans ?_
      refine (r_getR (dk D240 56 rfl) ow240 q12_53 ob_46 rfl).trans ?_
      refine (r_iln (dk D240 57 rfl) rfl).trans ?_
      refine (r_ild (dk D240 58 rfl) ar_55).trans (ck3 fun g6 => ?_)
      exact r_cv (dk D240 59 rfl) ow240 c12_193 mf179 (Nat.le_of_ble_eq_true rfl) rfl rfl (Nat.le_of_ble_eq_true rfl) (Nat.le_of_ble_eq_true rfl) ob_46
    rw [if_neg hs5]
    by_cases hs6 : l2 = 6
    · rw [if_pos hs6]
      refine (r_sw (t := 146) (dk D240 18 rfl) (by rw [hs6]; rfl)).trans ?_
      refine (r_aln (dk D240 61 rfl) rfl).trans ?_
      refine (r_aln (dk D240 62 rfl) rfl).trans ?_
      refine (r_getR (dk D240 63 rfl) ow240 q12_56 ob_46 rfl).trans ?_
      refine (r_iln (dk D240 64 rfl) rfl).trans ?_
      refine (r_ild (dk D240 65 rfl) ar_56).trans (ck3 fun g7 => ?_)
      exact r_cv (dk D240 66 rfl) ow240 c12_193 mf179 (Nat.le_of_ble_eq_true rfl) rfl rfl (Nat.le_of_ble_eq_true rfl) (Nat.le_of_ble_eq_true rfl) ob_46
    rw [if_neg hs6]
    by_cases hs7 : l2 = 7
    · rw [if_pos hs7]
      refine (r_sw (t := 157) (dk D240 18 rfl) (by rw [hs7]; rfl)).trans ?_
      refine (r_aln (dk D240 68 rfl) rfl).trans ?_
      refine (r_aln (dk D240 69 rfl) rfl).trans ?_
      refine (r_iln (dk D240 70 rfl) rfl).trans ?_
      exact r_cv (dk D240 71 rfl) ow240 c12_266 mf197 (Nat.le_of_ble_eq_true rfl) rfl rfl (Nat.le_of_ble_eq_true rfl) (Nat.le_of_ble_eq_true rfl) ob_46
    rw [if_neg hs7]
    by_cases hs8 : l2 = 8
    · rw [if_pos hs8]
      refine (r_sw (t := 167) (dk D240 18 rfl) (by rw [hs8]; rfl)).trans ?_
      refine (r_aln (dk D240 74 rfl) rfl).trans ?_
      refine (r_aln (dk D240 75 rfl) rfl).trans ?_
      refine (r_iln (dk D240 76 rfl) rfl).trans ?_
      exact r_cv (dk D240 77 rfl) ow240 c12_333 mf239 (Nat.le_of_ble_eq_true rfl) rfl rfl (Nat.le_of_ble_eq_true rfl) (Nat.le_of_ble_eq_true rfl) ob_46
    rw [if_neg hs8]
    refine (r_swd (t := 177) (dk D240 18 rfl) (swd_9 hs0 hs1 hs2 hs3 hs4 hs5 hs6 hs7 hs8) rfl).trans ?_
    refine (r_aln (dk D240 80 rfl) rfl).trans ?_
    exact r_cv (dk D240 81 rfl) ow240 c12_216 mf210 (Nat.le_of_ble_eq_true rfl) rfl rfl (Nat.le_of_ble_eq_true rfl) (Nat.le_of_ble_eq_true rfl) ob_46
theorem E240_29 {d sl : Nat} {p : Nat → Nat} {I : Nat → Nat → Int32} {J : Nat → Nat → Int64} (l1 : Int32) (l2 : Int32) (s0 : Int32)  : ev d 240 29 [.ref 46, .int l1, .int l2] [.int s0] (S sl p I J) = some (some (.int s0), (S sl p I J)) := by
  exact r_ret (dk D240 16 rfl) rt240
theorem E240_90 {d sl : Nat} {p : Nat → Nat} {I : Nat → Nat → Int32} {J : Nat → Nat → Int64} (l1 : Int32) (l2 : Int32) (s0 : Int32)  : ev d 240 90 [.ref 46, .int l1, .int l2] [.int s0] (S sl p I J) = some (some (.int s0), (S sl p I J)) := by
  exact r_ret (dk D240 25 rfl) rt240
theorem E240_101 {d sl : Nat} {p : Nat → Nat} {I : Nat → Nat → Int32} {J : Nat → Nat → Int64} (l1 : Int32) (l2 : Int32) (s0 : Int32)  : ev d 240 101 [.ref 46, .int l1, .int l2] [.int s0] (S sl p I J) = some (some (.int s0), (S sl p I J)) := by
  exact r_ret (dk D240 32 rfl) rt240
theorem E240_112 {d sl : Nat} {p : Nat → Nat} {I : Nat → Nat → Int32} {J : Nat → Nat → Int64} (l1 : Int32) (l2 : Int32) (s0 : Int32)  : ev d 240 112 [.ref 46, .int l1, .int l2] [.int s0] (S sl p I J) = some (some (.int s0), (S sl p I J)) := by
  exact r_ret (dk D240 39 rfl) rt240
theorem E240_123 {d sl : Nat} {p : Nat → Nat} {I : Nat → Nat → Int32} {J : Nat → Nat → Int64} (l1 : Int32) (l2 : Int32) (s0 : Int32)  : ev d 240 123 [.ref 46, .int l1, .int l2] [.int s0] (S sl p I J) = some (some (.int s0), (S sl p I J)) := by
  exact r_ret (dk D240 46 rfl) rt240
theorem E240_134 {d sl : Nat} {p : Nat → Nat} {I : Nat → Nat → Int32} {J : Nat → Nat → Int64} (l1 : Int32) (l2 : Int32) (s0 : Int32)  : ev d 240 134 [.ref 46, .int l1, .int l2] [.int s0] (S sl p I J) = some (some (.int s0), (S sl p I J)) := by
  exact r_ret (dk D240 53 rfl) rt240
theorem E240_145 {d sl : Nat} {p : Nat → Nat} {I : Nat → Nat → Int32} {J : Nat → Nat → Int64} (l1 : Int32) (l2 : Int32) (s0 : Int32)  : ev d 240 145 [.ref 46, .int l1, .int l2] [.int s0] (S sl p I J) = some (some (.int s0), (S sl p I J)) := by
  exact r_ret (dk D240 60 rfl) rt240
theorem E240_156 {d sl : Nat} {p : Nat → Nat} {I : Nat → Nat → Int32} {J : Nat → Nat → Int64} (l1 : Int32) (l2 : Int32) (s0 : Int32)  : ev d 240 156 [.ref 46, .int l1, .int l2] [.int s0] (S sl p I J) = some (some (.int s0), (S sl p I J)) := by
  exact r_ret (dk D240 67 rfl) rt240
theorem E240_163 {d sl : Nat} {p : Nat → Nat} {I : Nat → Nat → Int32} {J : Nat → Nat → Int64} (l1 : Int32) (l2 : Int32) (s0 : Int32)  : ev (d + 1) 240 163 [.ref 46, .int l1, .int l2] [.int s0, .ref 46] (S sl p I J) = evK (d + 1) 240 166 [.ref 46, .int l1, .int l2] [] (den d 179 [.ref 46, .int s0] (S sl p I J)) := by
  exact r_cv (dk D240 72 rfl) ow240 c12_193 mf179 (Nat.le_of_ble_eq_true rfl) rfl rfl (Nat.le_of_ble_eq_true rfl) (Nat.le_of_ble_eq_true rfl) ob_46
theorem E240_166 {d sl : Nat} {p : Nat → Nat} {I : Nat → Nat → Int32} {J : Nat → Nat → Int64} (l1 : Int32) (l2 : Int32) (s0 : Int32)  : ev d 240 166 [.ref 46, .int l1, .int l2] [.int s0] (S sl p I J) = some (some (.int s0), (S sl p I J)) := by
  exact r_ret (dk D240 73 rfl) rt240
theorem E240_173 {d sl : Nat} {p : Nat → Nat} {I : Nat → Nat → Int32} {J : Nat → Nat → Int64} (l1 : Int32) (l2 : Int32) (s0 : Int32)  : ev (d + 1) 240 173 [.ref 46, .int l1, .int l2] [.int s0, .ref 46] (S sl p I J) = evK (d + 1) 240 176 [.ref 46, .int l1, .int l2] [] (den d 179 [.ref 46, .int s0] (S sl p I J)) := by
  exact r_cv (dk D240 78 rfl) ow240 c12_193 mf179 (Nat.le_of_ble_eq_true rfl) rfl rfl (Nat.le_of_ble_eq_true rfl) (Nat.le_of_ble_eq_true rfl) ob_46
theorem E240_176 {d sl : Nat} {p : Nat → Nat} {I : Nat → Nat → Int32} {J : Nat → Nat → Int64} (l1 : Int32) (l2 : Int32) (s0 : Int32)  : ev d 240 176 [.ref 46, .int l1, .int l2] [.int s0] (S sl p I J) = some (some (.int s0), (S sl p I J)) := by
  exact r_ret (dk D240 79 rfl) rt240
theorem E240_181 {d sl : Nat} {p : Nat → Nat} {I : Nat → Nat → Int32} {J : Nat → Nat → Int64} (l1 : Int32) (l2 : Int32)  : ev (d + 1) 240 181 [.ref 46, .int l1, .int l2] [] (S sl p I J) = ck (ixb 60 l1) (evK (d + 1) 240 191 [.ref 46, .int l1, .int l2] [] (den d 179 [.ref 46, .int (I 61 (Int32.toNatClampNeg l1))] (S sl p I J))) := by
  refine (r_aln (dk D240 82 rfl) rfl).trans ?_
  refine (r_aln (dk D240 83 rfl) rfl).trans ?_
  refine (r_getR (dk D240 84 rfl) ow240 q12_71 ob_46 rfl).trans ?_
  refine (r_iln (dk D240 85 rfl) rfl).trans ?_
  refine (r_ild (dk D240 86 rfl) ar_61).trans (ck3 fun g1 => ?_)
  exact r_cv (dk D240 87 rfl) ow240 c12_193 mf179 (Nat.le_of_ble_eq_true rfl) rfl rfl (Nat.le_of_ble_eq_true rfl) (Nat.le_of_ble_eq_true rfl) ob_46
theorem E240_191 {d sl : Nat} {p : Nat → Nat} {I : Nat → Nat → Int32} {J : Nat → Nat → Int64} (l1 : Int32) (l2 : Int32) (s0 : Int32)  : ev d 240 191 [.ref 46, .int l1, .int l2] [.int s0] (S sl p I J) = some (some (.int s0), (S sl p I J)) := by
  exact r_ret (dk D240 88 rfl) rt240
set_option maxRecDepth 20000 in
theorem D241 : dOK 241 [(0, .iload_n 2, 1), (1, .iconst 0, 1), (2, .bipush 6, 2), (4, .invokestatic 178, 3), (7, .ifCond .ne 9, 3), (10, .aload_n 0, 1), (11, .iconst 1, 1), (12, .invokevirtual 183, 3), (15, .ireturn, 1), (16, .aload_n 0, 1), (17, .iload_n 1, 1), (18, .invokevirtual 203, 3), (21, .ifCond .ne 9, 3), (24, .aload_n 0, 1), (25, .iconst 2, 1), (26, .invokevirtual 183, 3), (29, .ireturn, 1), (30, .iconst 0, 1), (31, .istore_n 3, 1), (32, .iconst 0, 1), (33, .istore 4, 2), (35, .iload 4, 2), (37, .aload_n 0, 1), (38, .getfield 196, 3), (41, .if_icmp .ge 28, 3), (44, .iload_n 3, 1), (45, .aload_n 0, 1), (46, .getfield 38, 3), (49, .iload 4, 2), (51, .iaload, 1), (52, .iload_n 1, 1), (53, .if_icmp .ne 7, 3), (56, .iconst 1, 1), (57, .goto 4, 3), (60, .iconst 0, 1), (61, .iadd, 1), (62, .istore_n 3, 1), (63, .iinc 4 1, 3), (66, .goto (-31), 3), (69, .iload_n 2, 1), (70, .tableswitch 104 0 5 #[38, 49, 60, 71, 82, 93], 38), (108, .aload_n 0, 1), (109, .aload_n 0, 1), (110, .getfield 28, 3), (113, .iload_n 1, 1), (114, .iaload, 1), (115, .invokevirtual 193, 3), (118, .ireturn, 1), (119, .aload_n 0, 1), (120, .aload_n 0, 1), (121, .getfield 32, 3), (124, .iload_n 1, 1), (125, .iaload, 1), (126, .invokevirtual 193, 3), (129, .ireturn, 1), (130, .aload_n 0, 1), (131, .aload_n 0, 1), (132, .getfield 35, 3), (135, .iload_n 1, 1), (136, .iaload, 1), (137, .invokevirtual 193, 3), (140, .ireturn, 1), (141, .aload_n 0, 1), (142, .aload_n 0, 1), (143, .getfield 59, 3), (146, .iload_n 1, 1), (147, .iaload, 1), (148, .invokevirtual 193, 3), (151, .ireturn, 1), (152, .aload_n 0, 1), (153, .aload_n 0, 1), (154, .getfield 62, 3), (157, .iload_n 1, 1), (158, .iaload, 1), (159, .invokevirtual 193, 3), (162, .ireturn, 1), (163, .aload_n 0, 1), (164, .aload_n 0, 1), (165, .getfield 65, 3), (168, .iload_n 1, 1), (169, .iaload, 1), (170, .invokevirtual 193, 3), (173, .ireturn, 1), (174, .aload_n 0, 1), (175, .iload_n 3, 1), (176, .invokevirtual 193, 3), (179, .ireturn, 1)] = true := by decide +kernel
theorem E241_0 {d sl : Nat} {p : Nat → Nat} {I : Nat → Nat → Int32} {J : Nat → Nat → Int64} (a1 : Int32) (a2 : Int32)  : den (d + 1) 241 [.ref 46, .int a1, .int a2] (S sl p I J) = evK (d + 1) 241 7 [.ref 46, .int a1, .int a2, .retAddr 0, .retAddr 0] [] (den d 181 [.int a2, .int 0, .int 6] (S sl p I J)) := by
  refine (show den (d + 1) 241 [.ref 46, .int a1, .int a2] (S sl p I J) = ev (d + 1) 241 0 [.ref 46, .int a1, .int a2, .retAddr 0, .retAddr 0] [] (S sl p I J) from rfl).trans ?_
  refine (r_iln (dk D241 0 rfl) rfl).trans ?_
  refine (r_ic (dk D241 1 rfl) ci0).trans ?_
  refine (r_bp (dk D241 2 rfl) cb6).trans ?_
  exact r_cs (dk D241 3 rfl) ow241 pn12_178 c12_178 mf181 (Nat.le_of_ble_eq_true rfl) rfl rfl (Nat.le_of_ble_eq_true rfl) (Nat.le_of_ble_eq_true rfl)
theorem E241_7 {d sl : Nat} {p : Nat → Nat} {I : Nat → Nat → Int32} {J : Nat → Nat → Int64} (l1 : Int32) (l2 : Int32) (s0 : Int32)  : ev (d + 1) 241 7 [.ref 46, .int l1, .int l2, .retAddr 0, .retAddr 0] [.int s0] (S sl p I J) = (if s0 = 0 then evK (d + 1) 241 15 [.ref 46, .int l1, .int l2, .retAddr 0, .retAddr 0] [] (den d 178 [.ref 46, .int 1] (S sl p I J)) else evK (d + 1) 241 21 [.ref 46, .int l1, .int l2, .retAddr 0, .retAddr 0] [] (den d 200 [.ref 46, .int l1] (S sl p I J))) := by
  refine (r_ne0 (dk D241 4 rfl) rfl).trans (ite2 ?_ ?_)
  · refine (r_aln (dk D241 5 rfl) rfl).trans ?_
    refine (r_ic (dk D241 6 rfl) ci1).trans ?_
    exact r_cv (dk D241 7 rfl) ow241 c12_183 mf178 (Nat.le_of_ble_eq_true rfl) rfl rfl (Nat.le_of_ble_eq_true rfl) (Nat.le_of_ble_eq_true rfl) ob_46
  · refine (r_aln (dk D241 9 rfl) rfl).trans ?_
    refine (r_iln (dk D241 10 rfl) rfl).trans ?_
    exact r_cv (dk D241 11 rfl) ow241 c12_203 mf200 (Nat.le_of_ble_eq_true rfl) rfl rfl (Nat.le_of_ble_eq_true rfl) (Nat.le_of_ble_eq_true rfl) ob_46
theorem E241_15 {d sl : Nat} {p : Nat → Nat} {I : Nat → Nat → Int32} {J : Nat → Nat → Int64} (l1 : Int32) (l2 : Int32) (s0 : Int32)  : ev d 241 15 [.ref 46, .int l1, .int l2, .retAddr 0, .retAddr 0] [.int s0] (S sl p I J) = some (some (.int s0), (S sl p I J)) := by
  exact r_ret (dk D241 8 rfl) rt241
theorem E241_21 {d sl : Nat} {p : Nat → Nat} {I : Nat → Nat → Int32} {J : Nat → Nat → Int64} (l1 : Int32) (l2 : Int32) (s0 : Int32)  : ev (d + 1) 241 21 [.ref 46, .int l1, .int l2, .retAddr 0, .retAddr 0] [.int s0] (S sl p I J) = (if s0 = 0 then evK (d + 1) 241 29 [.ref 46, .int l1, .int l2, .retAddr 0, .retAddr 0] [] (den d 178 [.ref 46, .int 2] (S sl p I J)) else ev (d + 1) 241 35 [.ref 46, .int l1, .int l2, .int 0, .int 0] [] (S sl p I J)) := by
  refine (r_ne0 (dk D241 12 rfl) rfl).trans (ite2 ?_ ?_)
  · refine (r_aln (dk D241 13 rfl) rfl).trans ?_
    refine (r_ic (dk D241 14 rfl) ci2).trans ?_
    exact r_cv (dk D241 15 rfl) ow241 c12_183 mf178 (Nat.le_of_ble_eq_true rfl) rfl rfl (Nat.le_of_ble_eq_true rfl) (Nat.le_of_ble_eq_true rfl) ob_46
  · refine (r_ic (dk D241 17 rfl) ci0).trans ?_
    refine (r_isn (L' := [.ref 46, .int l1, .int l2, .int 0, .retAddr 0]) (dk D241 18 rfl) (Nat.le_of_ble_eq_true rfl) rfl).trans ?_
    refine (r_ic (dk D241 19 rfl) ci0).trans ?_
    refine (r_is (L' := [.ref 46, .int l1, .int l2, .int 0, .int 0]) (dk D241 20 rfl) (Nat.le_of_ble_eq_true rfl) rfl).trans ?_
    exact rfl
theorem E241_29 {d sl : Nat} {p : Nat → Nat} {I : Nat → Nat → Int32} {J : Nat → Nat → Int64} (l1 : Int32) (l2 : Int32) (s0 : Int32)  : ev d 241 29 [.ref 46, .int l1, .int l2, .retAddr 0, .retAddr 0] [.int s0] (S sl p I J) = some (some (.int s0), (S sl p I J)) := by
  exact r_ret (dk D241 16 rfl) rt241
theorem E241_35 {d sl : Nat} {p : Nat → Nat} {I : Nat → Nat → Int32} {J : Nat → Nat → Int64} (l1 : Int32) (l2 : Int32) (l3 : Int32) (l4 : Int32)  : ev (d + 1) 241 35 [.ref 46, .int l1, .int l2, .int l3, .int l4] [] (S sl p I J) = (if l4 < (I 46 2) then ck (ixb 60 l4) ((if (I 50 (Int32.toNatClampNeg l4)) = l1 then ev (d + 1) 241 35 [.ref 46, .int l1, .int l2, .int (l3 + 1), .int (l4 + 1)] [] (S sl p I J) else ev (d + 1) 241 35 [.ref 46, .int l1, .int l2, .int (l3 + 0), .int (l4 + 1)] [] (S sl p I J))) else (if l2 = 0 then ck (ixb 6 l1) (evK (d + 1) 241 118 [.ref 46, .int l1, .int l2, .int l3, .int l4] [] (den d 179 [.ref 46, .int (I 47 (Int32.toNatClampNeg l1))] (S sl p I J))) else (if l2 = 1 then ck (ixb 6 l1) (evK (d + 1) 241 129 [.ref 46, .int l1, .int l2, .int l3, .int l4] [] (den d 179 [.ref 46, .int (I 48 (Int32.toNatClampNeg l1))] (S sl p I J))) else (if l2 = 2 then ck (ixb 6 l1) (evK (d + 1) 241 140 [.ref 46, .int l1, .int l2, .int l3, .int l4] [] (den d 179 [.ref 46, .int (I 49 (Int32.toNatClampNeg l1))] (S sl p I J))) else (if l2 = 3 then ck (ixb 6 l1) (evK (d + 1) 241 151 [.ref 46, .int l1, .int l2, .int l3, .int l4] [] (den d 179 [.ref 46, .int (I 57 (Int32.toNatClampNeg l1))] (S sl p I J))) else (if l2 = 4 then ck (ixb 6 l1) (evK (d + 1) 241 162 [.ref 46, .int l1, .int l2, .int l3, .int l4] [] (den d 179 [.ref 46, .int (I 58 (Int32.toNatClampNeg l1))] (S sl p I J))) else (if l2 = 5 then ck (ixb 6 l1) (evK (d + 1) 241 173 [.ref 46, .int l1, .int l2, .int l3, .int l4] [] (den d 179 [.ref 46, .int (I 59 (Int32.toNatClampNeg l1))] (S sl p I J))) else evK (d + 1) 241 179 [.ref 46, .int l1, .int l2, .int l3, .int l4] [] (den d 179 [.ref 46, .int l3] (S sl p I J))))))))) := by
  refine (r_il (dk D241 21 rfl) rfl).trans ?_
  refine (r_aln (dk D241 22 rfl) rfl).trans ?_
  refine (r_getI (dk D241 23 rfl) ow241 q12_196 ob_46).trans ?_
  refine (r_ge (dk D241 24 rfl) rfl).trans (ite2 ?_ ?_)
  · refine (r_iln (dk D241 25 rfl) rfl).trans ?_
    refine (r_aln (dk D241 26 rfl) rfl).trans ?_
    refine (r_getR (dk D241 27 rfl) ow241 q12_38 ob_46 rfl).trans ?_
    refine (r_il (dk D241 28 rfl) rfl).trans ?_
    refine (r_ild (dk D241 29 rfl) ar_50).trans (ck3 fun g1 => ?_)
    refine (r_iln (dk D241 30 rfl) rfl).trans ?_
    refine (r_ne (dk D241 31 rfl) rfl).trans (ite2 ?_ ?_)
    · refine (r_ic (dk D241 32 rfl) ci1).trans ?_
      refine (r_goto (L' := [.ref 46, .int l1, .int l2, .int l3, .int l4]) (dk D241 33 rfl) rfl nd241_61 rfl).trans ?_
      refine (r_iadd (dk D241 35 rfl)).trans ?_
      refine (r_isn (L' := [.ref 46, .int l1, .int l2, .int (l3 + 1), .int l4]) (dk D241 36 rfl) (Nat.le_of_ble_eq_true rfl) rfl).trans ?_
      refine (r_inc (L' := [.ref 46, .int l1, .int l2, .int (l3 + 1), .int (l4 + 1)]) (dk D241 37 rfl) rfl rfl ci1 (Nat.le_of_ble_eq_true rfl) rfl).trans ?_
      refine (r_goto (L' := [.ref 46, .int l1, .int l2, .int (l3 + 1), .int (l4 + 1)]) (dk D241 38 rfl) rfl nd241_35 rfl).trans ?_
      exact rfl
    · refine (r_ic (dk D241 34 rfl) ci0).trans ?_
      refine (r_iadd (dk D241 35 rfl)).trans ?_
      refine (r_isn (L' := [.ref 46, .int l1, .int l2, .int (l3 + 0), .int l4]) (dk D241 36 rfl) (Nat.le_of_ble_eq_true rfl) rfl).trans ?_
      refine (r_inc (L' := [.ref 46, .int l1, .int l2, .int (l3 + 0), .int (l4 + 1)]) (dk D241 37 rfl) rfl rfl ci1 (Nat.le_of_ble_eq_true rfl) rfl).trans ?_
      refine (r_goto (L' := [.ref 46, .int l1, .int l2, .int (l3 + 0), .int (l4 + 1)]) (dk D241 38 rfl) rfl nd241_35 rfl).trans ?_
      exact rfl
  · refine (r_iln (dk D241 39 rfl) rfl).trans ?_
    by_cases hs0 : l2 = 0
    · rw [if_pos hs0]
      refine (r_sw (t := 108) (dk D241 40 rfl) (by rw [hs0]; rfl)).trans ?_
      refine (r_aln (dk D241 41 rfl) rfl).trans ?_
      refine (r_aln (dk D241 42 rfl) rfl).trans ?_
      refine (r_getR (dk D241 43 rfl) ow241 q12_28 ob_46 rfl).trans ?_
      refine (r_iln (dk D241 44 rfl) rfl).trans ?_
      refine (r_ild (dk D241 45 rfl) ar_47).trans (ck3 fun g2 => ?_)
      exact r_cv (dk D241 46 rfl) ow241 c12_193 mf179 (Nat.le_of_ble_eq_true rfl) rfl rfl (Nat.le_of_ble_eq_true rfl) (Nat.le_of_ble_eq_true rfl) ob_46
    rw [if_neg hs0]
    by_cases hs1 : l2 = 1
    · rw [if_pos hs1]
      refine (r_sw (t := 119) (dk D241 40 rfl) (by rw [hs1]; rfl)).trans ?_
      refine (r_aln (dk D241 48 rfl) rfl).trans ?_
      refine (r_aln (dk D241 49 rfl) rfl).trans ?_
      refine (r_getR (dk D241 50 rfl) ow241 q12_32 ob_46 rfl).trans ?_
      refine (r_iln (dk D241 51 rfl) rfl).trans ?_
      refine (r_ild (dk D241 52 rfl) ar_48).trans (ck3 fun g3 => ?_)
      exact r_cv (dk D241 53 rfl) ow241 c12_193 mf179 (Nat.le_of_ble_eq_true rfl) rfl rfl (Nat.le_of_ble_eq_true rfl) (Nat.le_of_ble_eq_true rfl) ob_46
    rw [if_neg hs1]
    by_cases hs2 : l2 = 2
    · rw [if_pos hs2]
      refine (r_sw (t := 130) (dk D241 40 rfl) (by rw [hs2]; rfl)).trans ?_
      refine (r_aln (dk D241 55 rfl) rfl).trans ?_
      refine (r_aln (dk D241 56 rfl) rfl).trans ?_
      refine (r_getR (dk D241 57 rfl) ow241 q12_35 ob_46 rfl).trans ?_
      refine (r_iln (dk D241 58 rfl) rfl).trans ?_
      refine (r_ild (dk D241 59 rfl) ar_49).trans (ck3 fun g4 => ?_)
      exact r_cv (dk D241 60 rfl) ow241 c12_193 mf179 (Nat.le_of_ble_eq_true rfl) rfl rfl (Nat.le_of_ble_eq_true rfl) (Nat.le_of_ble_eq_true rfl) ob_46
    rw [if_neg hs2]
    by_cases hs3 : l2 = 3
    · rw [if_pos hs3]
      refine (r_sw (t := 141) (dk D241 40 rfl) (by rw [hs3]; rfl)).trans ?_
      refine (r_aln (dk D241 62 rfl) rfl).trans ?_
      refine (r_aln (dk D241 63 rfl) rfl).trans ?_
      refine (r_getR (dk D241 64 rfl) ow241 q12_59 ob_46 rfl).trans ?_
      refine (r_iln (dk D241 65 rfl) rfl).trans ?_
      refine (r_ild (dk D241 66 rfl) ar_57).trans (ck3 fun g5 => ?_)
      exact r_cv (dk D241 67 rfl) ow241 c12_193 mf179 (Nat.le_of_ble_eq_true rfl) rfl rfl (Nat.le_of_ble_eq_true rfl) (Nat.le_of_ble_eq_true rfl) ob_46
    rw [if_neg hs3]
    by_cases hs4 : l2 = 4
    · rw [if_pos hs4]
      refine (r_sw (t := 152) (dk D241 40 rfl) (by rw [hs4]; rfl)).trans ?_
      refine (r_aln (dk D241 69 rfl) rfl).trans ?_
      refine (r_aln (dk D241 70 rfl) rfl).trans ?_
      refine (r_getR (dk D241 71 rfl) ow241 q12_62 ob_46 rfl).trans ?_
      refine (r_iln (dk D241 72 rfl) rfl).trans ?_
      refine (r_ild (dk D241 73 rfl) ar_58).trans (ck3 fun g6 => ?_)
      exact r_cv (dk D241 74 rfl) ow241 c12_193 mf179 (Nat.le_of_ble_eq_true rfl) rfl rfl (Nat.le_of_ble_eq_true rfl) (Nat.le_of_ble_eq_true rfl) ob_46
    rw [if_neg hs4]
    by_cases hs5 : l2 = 5
    · rw [if_pos hs5]
      refine (r_sw (t := 163) (dk D241 40 rfl) (by rw [hs5]; rfl)).trans ?_
      refine (r_aln (dk D241 76 rfl) rfl).trans ?_
      refine (r_aln (dk D241 77 rfl) rfl).trans ?_
      refine (r_getR (dk D241 78 rfl) ow241 q12_65 ob_46 rfl).trans ?_
      refine (r_iln (dk D241 79 rfl) rfl).trans ?_
      refine (r_ild (dk D241 80 rfl) ar_59).trans (ck3 fun g7 => ?_)
      exact r_cv (dk D241 81 rfl) ow241 c12_193 mf179 (Nat.le_of_ble_eq_true rfl) rfl rfl (Nat.le_of_ble_eq_true rfl) (Nat.le_of_ble_eq_true rfl) ob_46
    rw [if_neg hs5]
    refine (r_swd (t := 174) (dk D241 40 rfl) (swd_6 hs0 hs1 hs2 hs3 hs4 hs5) rfl).trans ?_
    refine (r_aln (dk D241 83 rfl) rfl).trans ?_
    refine (r_iln (dk D241 84 rfl) rfl).trans ?_
    exact r_cv (dk D241 85 rfl) ow241 c12_193 mf179 (Nat.le_of_ble_eq_true rfl) rfl rfl (Nat.le_of_ble_eq_true rfl) (Nat.le_of_ble_eq_true rfl) ob_46
theorem E241_118 {d sl : Nat} {p : Nat → Nat} {I : Nat → Nat → Int32} {J : Nat → Nat → Int64} (l1 : Int32) (l2 : Int32) (l3 : Int32) (l4 : Int32) (s0 : Int32)  : ev d 241 118 [.ref 46, .int l1, .int l2, .int l3, .int l4] [.int s0] (S sl p I J) = some (some (.int s0), (S sl p I J)) := by
  exact r_ret (dk D241 47 rfl) rt241
theorem E241_129 {d sl : Nat} {p : Nat → Nat} {I : Nat → Nat → Int32} {J : Nat → Nat → Int64} (l1 : Int32) (l2 : Int32) (l3 : Int32) (l4 : Int32) (s0 : Int32)  : ev d 241 129 [.ref 46, .int l1, .int l2, .int l3, .int l4] [.int s0] (S sl p I J) = some (some (.int s0), (S sl p I J)) := by
  exact r_ret (dk D241 54 rfl) rt241
theorem E241_140 {d sl : Nat} {p : Nat → Nat} {I : Nat → Nat → Int32} {J : Nat → Nat → Int64} (l1 : Int32) (l2 : Int32) (l3 : Int32) (l4 : Int32) (s0 : Int32)  : ev d 241 140 [.ref 46, .int l1, .int l2, .int l3, .int l4] [.int s0] (S sl p I J) = some (some (.int s0), (S sl p I J)) := by
  exact r_ret (dk D241 61 rfl) rt241
theorem E241_151 {d sl : Nat} {p : Nat → Nat} {I : Nat → Nat → Int32} {J : Nat → Nat → Int64} (l1 : Int32) (l2 : Int32) (l3 : Int32) (l4 : Int32) (s0 : Int32)  : ev d 241 151 [.ref 46, .int l1, .int l2, .int l3, .int l4] [.int s0] (S sl p I J) = some (some (.int s0), (S sl p I J)) := by
  exact r_ret (dk D241 68 rfl) rt241
theorem E241_162 {d sl : Nat} {p : Nat → Nat} {I : Nat → Nat → Int32} {J : Nat → Nat → Int64} (l1 : Int32) (l2 : Int32) (l3 : Int32) (l4 : Int32) (s0 : Int32)  : ev d 241 162 [.ref 46, .int l1, .int l2, .int l3, .int l4] [.int s0] (S sl p I J) = some (some (.int s0), (S sl p I J)) := by
  exact r_ret (dk D241 75 rfl) rt241
theorem E241_173 {d sl : Nat} {p : Nat → Nat} {I : Nat → Nat → Int32} {J : Nat → Nat → Int64} (l1 : Int32) (l2 : Int32) (l3 : Int32) (l4 : Int32) (s0 : Int32)  : ev d 241 173 [.ref 46, .int l1, .int l2, .int l3, .int l4] [.int s0] (S sl p I J) = some (some (.int s0), (S sl p I J)) := by
  exact r_ret (dk D241 82 rfl) rt241
theorem E241_179 {d sl : Nat} {p : Nat → Nat} {I : Nat → Nat → Int32} {J : Nat → Nat → Int64} (l1 : Int32) (l2 : Int32) (l3 : Int32) (l4 : Int32) (s0 : Int32)  : ev d 241 179 [.ref 46, .int l1, .int l2, .int l3, .int l4] [.int s0] (S sl p I J) = some (some (.int s0), (S sl p I J)) := by
  exact r_ret (dk D241 86 rfl) rt241
set_option maxRecDepth 20000 in
theorem D242 : dOK 242 [(0, .aload_n 0, 1), (1, .iload_n 1, 1), (2, .invokevirtual 210, 3), (5, .ifCond .eq 24, 3), (8, .aload_n 0, 1), (9, .iload_n 2, 1), (10, .invokevirtual 210, 3), (13, .ifCond .eq 16, 3), (16, .aload_n 0, 1), (17, .aload_n 0, 1), (18, .iload_n 1, 1), (19, .iload_n 2, 1), (20, .invokevirtual 336, 3), (23, .invokevirtual 193, 3), (26, .goto 8, 3), (29, .aload_n 0, 1), (30, .iconst 2, 1), (31, .invokevirtual 183, 3), (34, .ireturn, 1)] = true := by decide +kernel
theorem E242_0 {d sl : Nat} {p : Nat → Nat} {I : Nat → Nat → Int32} {J : Nat → Nat → Int64} (a1 : Int32) (a2 : Int32)  : den (d + 1) 242 [.ref 46, .int a1, .int a2] (S sl p I J) = evK (d + 1) 242 5 [.ref 46, .int a1, .int a2] [] (den d 201 [.ref 46, .int a1] (S sl p I J)) := by
  refine (show den (d + 1) 242 [.ref 46, .int a1, .int a2] (S sl p I J) = ev (d + 1) 242 0 [.ref 46, .int a1, .int a2] [] (S sl p I J) from rfl).trans ?_
  refine (r_aln (dk D242 0 rfl) rfl).trans ?_
  refine (r_iln (dk D242 1 rfl) rfl).trans ?_
  exact r_cv (dk D242 2 rfl) ow242 c12_210 mf201 (Nat.le_of_ble_eq_true rfl) rfl rfl (Nat.le_of_ble_eq_true rfl) (Nat.le_of_ble_eq_true rfl) ob_46
theorem E242_5 {d sl : Nat} {p : Nat → Nat} {I : Nat → Nat → Int32} {J : Nat → Nat → Int64} (l1 : Int32) (l2 : Int32) (s0 : Int32)  : ev (d + 1) 242 5 [.ref 46, .int l1, .int l2] [.int s0] (S sl p I J) = (if s0 = 0 then ev (d + 1) 242 29 [.ref 46, .int l1, .int l2] [] (S sl p I J) else evK (d + 1) 242 13 [.ref 46, .int l1, .int l2] [] (den d 201 [.ref 46, .int l2] (S sl p I J))) := by
  refine (r_eq0 (dk D242 3 rfl) rfl).trans (ite2 ?_ ?_)
  · exact rfl
  · refine (r_aln (dk D242 4 rfl) rfl).trans ?_
    refine (r_iln (dk D242 5 rfl) rfl).trans ?_
    exact r_cv (dk D242 6 rfl) ow242 c12_210 mf201 (Nat.le_of_ble_eq_true rfl) rfl rfl (Nat.le_of_ble_eq_true rfl) (Nat.le_of_ble_eq_true rfl) ob_46
theorem E242_13 {d sl : Nat} {p : Nat → Nat} {I : Nat → Nat → Int32} {J : Nat → Nat → Int64} (l1 : Int32) (l2 : Int32) (s0 : Int32)  : ev (d + 1) 242 13 [.ref 46, .int l1, .int l2] [.int s0] (S sl p I J) = (if s0 = 0 then ev (d + 1) 242 29 [.ref 46, .int l1, .int l2] [] (S sl p I J) else evK (d + 1) 242 23 [.ref 46, .int l1, .int l2] [.ref 46] (den d 194 [.ref 46, .int l1, .int l2] (S sl p I J))) := by
  refine (r_eq0 (dk D242 7 rfl) rfl).trans (ite2 ?_ ?_)
  · exact rfl
  · refine (r_aln (dk D242 8 rfl) rfl).trans ?_
    refine (r_aln (dk D242 9 rfl) rfl).trans ?_
    refine (r_iln (dk D242 10 rfl) rfl).trans ?_
    refine (r_iln (dk D242 11 rfl) rfl).trans ?_
    exact r_cv (dk D242 12 rfl) ow242 c12_336 mf194 (Nat.le_of_ble_eq_true rfl) rfl rfl (Nat.le_of_ble_eq_true rfl) (Nat.le_of_ble_eq_true rfl) ob_46
theorem E242_23 {d sl : Nat} {p : Nat → Nat} {I : Nat → Nat → Int32} {J : Nat → Nat → Int64} (l1 : Int32) (l2 : Int32) (s0 : Int32)  : ev (d + 1) 242 23 [.ref 46, .int l1, .int l2] [.int s0, .ref 46] (S sl p I J) = evK (d + 1) 242 26 [.ref 46, .int l1, .int l2] [] (den d 179 [.ref 46, .int s0] (S sl p I J)) := by
  exact r_cv (dk D242 13 rfl) ow242 c12_193 mf179 (Nat.le_of_ble_eq_true rfl) rfl rfl (Nat.le_of_ble_eq_true rfl) (Nat.le_of_ble_eq_true rfl) ob_46
theorem E242_26 {d sl : Nat} {p : Nat → Nat} {I : Nat → Nat → Int32} {J : Nat → Nat → Int64} (l1 : Int32) (l2 : Int32) (s0 : Int32)  : ev d 242 26 [.ref 46, .int l1, .int l2] [.int s0] (S sl p I J) = some (some (.int s0), (S sl p I J)) := by
  refine (r_goto (L' := [.ref 46, .int l1, .int l2]) (dk D242 14 rfl) rfl nd242_34 rfl).trans ?_
  exact r_ret (dk D242 18 rfl) rt242
theorem E242_29 {d sl : Nat} {p : Nat → Nat} {I : Nat → Nat → Int32} {J : Nat → Nat → Int64} (l1 : Int32) (l2 : Int32)  : ev (d + 1) 242 29 [.ref 46, .int l1, .int l2] [] (S sl p I J) = evK (d + 1) 242 34 [.ref 46, .int l1, .int l2] [] (den d 178 [.ref 46, .int 2] (S sl p I J)) := by
  refine (r_aln (dk D242 15 rfl) rfl).trans ?_
  refine (r_ic (dk D242 16 rfl) ci2).trans ?_
  exact r_cv (dk D242 17 rfl) ow242 c12_183 mf178 (Nat.le_of_ble_eq_true rfl) rfl rfl (Nat.le_of_ble_eq_true rfl) (Nat.le_of_ble_eq_true rfl) ob_46
theorem E242_34 {d sl : Nat} {p : Nat → Nat} {I : Nat → Nat → Int32} {J : Nat → Nat → Int64} (l1 : Int32) (l2 : Int32) (s0 : Int32)  : ev d 242 34 [.ref 46, .int l1, .int l2] [.int s0] (S sl p I J) = some (some (.int s0), (S sl p I J)) := by
  exact r_ret (dk D242 18 rfl) rt242
set_option maxRecDepth 20000 in
theorem D243 : dOK 243 [(0, .iload_n 2, 1), (1, .iconst 0, 1), (2, .bipush 90, 2), (4, .invokestatic 178, 3), (7, .ifCond .ne 9, 3), (10, .aload_n 0, 1), (11, .iconst 1, 1), (12, .invokevirtual 183, 3), (15, .ireturn, 1), (16, .aload_n 0, 1), (17, .iload_n 1, 1), (18, .invokevirtual 210, 3), (21, .ifCond .ne 9, 3), (24, .aload_n 0, 1), (25, .iconst 2, 1), (26, .invokevirtual 183, 3), (29, .ireturn, 1), (30, .iconst 0, 1), (31, .istore_n 3, 1), (32, .iconst 0, 1), (33, .istore 4, 2), (35, .iload 4, 2), (37, .aload_n 0, 1), (38, .getfield 196, 3), (41, .if_icmp .ge 28, 3), (44, .iload_n 3, 1), (45, .aload_n 0, 1), (46, .iload_n 1, 1), (47, .iload 4, 2), (49, .iload_n 2, 1), (50, .invokevirtual 229, 3), (53, .ifCond .eq 7, 3), (56, .iconst 1, 1), (57, .goto 4, 3), (60, .iconst 0, 1), (61, .iadd, 1), (62, .istore_n 3, 1), (63, .iinc 4 1, 3), (66, .goto (-31), 3), (69, .aload_n 0, 1), (70, .iload_n 3, 1), (71, .invokevirtual 193, 3), (74, .ireturn, 1)] = true := by decide +kernel
theorem E243_0 {d sl : Nat} {p : Nat → Nat} {I : Nat → Nat → Int32} {J : Nat → Nat → Int64} (a1 : Int32) (a2 : Int32)  : den (d + 1) 243 [.ref 46, .int a1, .int a2] (S sl p I J) = evK (d + 1) 243 7 [.ref 46, .int a1, .int a2, .retAddr 0, .retAddr 0] [] (den d 181 [.int a2, .int 0, .int 90] (S sl p I J)) := by
  refine (show den (d + 1) 243 [.ref 46, .int a1, .int a2] (S sl p I J) = ev (d + 1) 243 0 [.ref 46, .int a1, .int a2, .retAddr 0, .retAddr 0] [] (S sl p I J) from rfl).trans ?_
  refine (r_iln (dk D243 0 rfl) rfl).trans ?_
  refine (r_ic (dk D243 1 rfl) ci0).trans ?_
  refine (r_bp (dk D243 2 rfl) cb90).trans ?_
  exact r_cs (dk D243 3 rfl) ow243 pn12_178 c12_178 mf181 (Nat.le_of_ble_eq_true rfl) rfl rfl (Nat.le_of_ble_eq_true rfl) (Nat.le_of_ble_eq_true rfl)
theorem E243_7 {d sl : Nat} {p : Nat → Nat} {I : Nat → Nat → Int32} {J : Nat → Nat → Int64} (l1 : Int32) (l2 : Int32) (s0 : Int32)  : ev (d + 1) 243 7 [.ref 46, .int l1, .int l2, .retAddr 0, .retAddr 0] [.int s0] (S sl p I J) = (if s0 = 0 then evK (d + 1) 243 15 [.ref 46, .int l1, .int l2, .retAddr 0, .retAddr 0] [] (den d 178 [.ref 46, .int 1] (S sl p I J)) else evK (d + 1) 243 21 [.ref 46, .int l1, .int l2, .retAddr 0, .retAddr 0] [] (den d 201 [.ref 46, .int l1] (S sl p I J))) := by
  refine (r_ne0 (dk D243 4 rfl) rfl).trans (ite2 ?_ ?_)
  · refine (r_aln (dk D243 5 rfl) rfl).trans ?_
    refine (r_ic (dk D243 6 rfl) ci1).trans ?_
    exact r_cv (dk D243 7 rfl) ow243 c12_183 mf178 (Nat.le_of_ble_eq_true rfl) rfl rfl (Nat.le_of_ble_eq_true rfl) (Nat.le_of_ble_eq_true rfl) ob_46
  · refine (r_aln (dk D243 9 rfl) rfl).trans ?_
    refine (r_iln (dk D243 10 rfl) rfl).trans ?_
    exact r_cv (dk D243 11 rfl) ow243 c12_210 mf201 (Nat.le_of_ble_eq_true rfl) rfl rfl (Nat.le_of_ble_eq_true rfl) (Nat.le_of_ble_eq_true rfl) ob_46
theorem E243_15 {d sl : Nat} {p : Nat → Nat} {I : Nat → Nat → Int32} {J : Nat → Nat → Int64} (l1 : Int32) (l2 : Int32) (s0 : Int32)  : ev d 243 15 [.ref 46, .int l1, .int l2, .retAddr 0, .retAddr 0] [.int s0] (S sl p I J) = some (some (.int s0), (S sl p I J)) := by
  exact r_ret (dk D243 8 rfl) rt243
theorem E243_21 {d sl : Nat} {p : Nat → Nat} {I : Nat → Nat → Int32} {J : Nat → Nat → Int64} (l1 : Int32) (l2 : Int32) (s0 : Int32)  : ev (d + 1) 243 21 [.ref 46, .int l1, .int l2, .retAddr 0, .retAddr 0] [.int s0] (S sl p I J) = (if s0 = 0 then evK (d + 1) 243 29 [.ref 46, .int l1, .int l2, .retAddr 0, .retAddr 0] [] (den d 178 [.ref 46, .int 2] (S sl p I J)) else ev (d + 1) 243 35 [.ref 46, .int l1, .int l2, .int 0, .int 0] [] (S sl p I J)) := by
  refine (r_ne0 (dk D243 12 rfl) rfl).trans (ite2 ?_ ?_)
  · refine (r_aln (dk D243 13 rfl) rfl).trans ?_
    refine (r_ic (dk D243 14 rfl) ci2).trans ?_
    exact r_cv (dk D243 15 rfl) ow243 c12_183 mf178 (Nat.le_of_ble_eq_true rfl) rfl rfl (Nat.le_of_ble_eq_true rfl) (Nat.le_of_ble_eq_true rfl) ob_46
  · refine (r_ic (dk D243 17 rfl) ci0).trans ?_
    refine (r_isn (L' := [.ref 46, .int l1, .int l2, .int 0, .retAddr 0]) (dk D243 18 rfl) (Nat.le_of_ble_eq_true rfl) rfl).trans ?_
    refine (r_ic (dk D243 19 rfl) ci0).trans ?_
    refine (r_is (L' := [.ref 46, .int l1, .int l2, .int 0, .int 0]) (dk D243 20 rfl) (Nat.le_of_ble_eq_true rfl) rfl).trans ?_
    exact rfl
theorem E243_29 {d sl : Nat} {p : Nat → Nat} {I : Nat → Nat → Int32} {J : Nat → Nat → Int64} (l1 : Int32) (l2 : Int32) (s0 : Int32)  : ev d 243 29 [.ref 46, .int l1, .int l2, .retAddr 0, .retAddr 0] [.int s0] (S sl p I J) = some (some (.int s0), (S sl p I J)) := by
  exact r_ret (dk D243 16 rfl) rt243
theorem E243_35 {d sl : Nat} {p : Nat → Nat} {I : Nat → Nat → Int32} {J : Nat → Nat → Int64} (l1 : Int32) (l2 : Int32) (l3 : Int32) (l4 : Int32)  : ev (d + 1) 243 35 [.ref 46, .int l1, .int l2, .int l3, .int l4] [] (S sl p I J) = (if l4 < (I 46 2) then evK (d + 1) 243 53 [.ref 46, .int l1, .int l2, .int l3, .int l4] [.int l3] (den d 195 [.ref 46, .int l1, .int l4, .int l2] (S sl p I J)) else evK (d + 1) 243 74 [.ref 46, .int l1, .int l2, .int l3, .int l4] [] (den d 179 [.ref 46, .int l3] (S sl p I J))) := by
  refine (r_il (dk D243 21 rfl) rfl).trans ?_
  refine (r_aln (dk D243 22 rfl) rfl).trans ?_
  refine (r_getI (dk D243 23 rfl) ow243 q12_196 ob_46).trans ?_
  refine (r_ge (dk D243 24 rfl) rfl).trans (ite2 ?_ ?_)
  · refine (r_iln (dk D243 25 rfl) rfl).trans ?_
    refine (r_aln (dk D243 26 rfl) rfl).trans ?_
    refine (r_iln (dk D243 27 rfl) rfl).trans ?_
    refine (r_il (dk D243 28 rfl) rfl).trans ?_
    refine (r_iln (dk D243 29 rfl) rfl).trans ?_
    exact r_cv (dk D243 30 rfl) ow243 c12_229 mf195 (Nat.le_of_ble_eq_true rfl) rfl rfl (Nat.le_of_ble_eq_true rfl) (Nat.le_of_ble_eq_true rfl) ob_46
  · refine (r_aln (dk D243 39 rfl) rfl).trans ?_
    refine (r_iln (dk D243 40 rfl) rfl).trans ?_
    exact r_cv (dk D243 41 rfl) ow243 c12_193 mf179 (Nat.le_of_ble_eq_true rfl) rfl rfl (Nat.le_of_ble_eq_true rfl) (Nat.le_of_ble_eq_true rfl) ob_46
theorem E243_53 {d sl : Nat} {p : Nat → Nat} {I : Nat → Nat → Int32} {J : Nat → Nat → Int64} (l1 : Int32) (l2 : Int32) (l3 : Int32) (l4 : Int32) (s0 : Int32) (s1 : Int32)  : ev d 243 53 [.ref 46, .int l1, .int l2, .int l3, .int l4] [.int s0, .int s1] (S sl p I J) = (if s0 = 0 then ev d 243 35 [.ref 46, .int l1, .int l2, .int (s1 + 0), .int (l4 + 1)] [] (S sl p I J) else ev d 243 35 [.ref 46, .int l1, .int l2, .int (s1 + 1), .int (l4 + 1)] [] (S sl p I J)) := by
  refine (r_eq0 (dk D243 31 rfl) rfl).trans (ite2 ?_ ?_)
  · refine (r_ic (dk D243 34 rfl) ci0).trans ?_
    refine (r_iadd (dk D243 35 rfl)).trans ?_
    refine (r_isn (L' := [.ref 46, .int l1, .int l2, .int (s1 + 0), .int l4]) (dk D243 36 rfl) (Nat.le_of_ble_eq_true rfl) rfl).trans ?_
    refine (r_inc (L' := [.ref 46, .int l1, .int l2, .int (s1 + 0), .int (l4 + 1)]) (dk D243 37 rfl) rfl rfl ci1 (Nat.le_of_ble_eq_true rfl) rfl).trans ?_
    refine (r_goto (L' := [.ref 46, .int l1, .int l2, .int (s1 + 0), .int (l4 + 1)]) (dk D243 38 rfl) rfl nd243_35 rfl).trans ?_
    exact rfl
  · refine (r_ic (dk D243 32 rfl) ci1).trans ?_
    refine (r_goto (L' := [.ref 46, .int l1, .int l2, .int l3, .int l4]) (dk D243 33 rfl) rfl nd243_61 rfl).trans ?_
    refine (r_iadd (dk D243 35 rfl)).trans ?_
    refine (r_isn (L' := [.ref 46, .int l1, .int l2, .int (s1 + 1), .int l4]) (dk D243 36 rfl) (Nat.le_of_ble_eq_true rfl) rfl).trans ?_
    refine (r_inc (L' := [.ref 46, .int l1, .int l2, .int (s1 + 1), .int (l4 + 1)]) (dk D243 37 rfl) rfl rfl ci1 (Nat.le_of_ble_eq_true rfl) rfl).trans ?_
    refine (r_goto (L' := [.ref 46, .int l1, .int l2, .int (s1 + 1), .int (l4 + 1)]) (dk D243 38 rfl) rfl nd243_35 rfl).trans ?_
    exact rfl
theorem E243_74 {d sl : Nat} {p : Nat → Nat} {I : Nat → Nat → Int32} {J : Nat → Nat → Int64} (l1 : Int32) (l2 : Int32) (l3 : Int32) (l4 : Int32) (s0 : Int32)  : ev d 243 74 [.ref 46, .int l1, .int l2, .int l3, .int l4] [.int s0] (S sl p I J) = some (some (.int s0), (S sl p I J)) := by
  exact r_ret (dk D243 42 rfl) rt243
set_option maxRecDepth 20000 in
theorem D244 : dOK 244 [(0, .iload_n 2, 1), (1, .iconst 0, 1), (2, .bipush 11, 2), (4, .invokestatic 178, 3), (7, .ifCond .ne 10, 3), (10, .aload_n 0, 1), (11, .iconst 1, 1), (12, .invokevirtual 183, 3), (15, .i2l, 1), (16, .lreturn, 1), (17, .aload_n 0, 1), (18, .invokevirtual 339, 3), (21, .aload_n 0, 1), (22, .iload_n 1, 1), (23, .invokevirtual 324, 3), (26, .ifCond .ne 10, 3), (29, .aload_n 0, 1), (30, .iconst 2, 1), (31, .invokevirtual 183, 3), (34, .i2l, 1), (35, .lreturn, 1), (36, .aload_n 0, 1), (37, .iload_n 1, 1), (38, .invokevirtual 283, 3), (41, .aload_n 0, 1), (42, .iload_n 1, 1), (43, .invokevirtual 342, 3), (46, .iload_n 2, 1), (47, .tableswitch 168 0 10 #[57, 68, 77, 87, 97, 107, 117, 127, 136, 146, 157], 57), (104, .aload_n 0, 1), (105, .aload_n 0, 1), (106, .iload_n 1, 1), (107, .invokevirtual 330, 3), (110, .i2l, 1), (111, .invokevirtual 345, 3), (114, .lreturn, 1), (115, .aload_n 0, 1), (116, .aload_n 0, 1), (117, .getfield 260, 3), (120, .invokevirtual 345, 3), (123, .lreturn, 1), (124, .aload_n 0, 1), (125, .aload_n 0, 1), (126, .invokevirtual 348, 3), (129, .i2l, 1), (130, .invokevirtual 345, 3), (133, .lreturn, 1), (134, .aload_n 0, 1), (135, .aload_n 0, 1), (136, .invokevirtual 300, 3), (139, .i2l, 1), (140, .invokevirtual 345, 3), (143, .lreturn, 1), (144, .aload_n 0, 1), (145, .aload_n 0, 1), (146, .getfield 127, 3), (149, .i2l, 1), (150, .invokevirtual 345, 3), (153, .lreturn, 1), (154, .aload_n 0, 1), (155, .aload_n 0, 1), (156, .getfield 130, 3), (159, .i2l, 1), (160, .invokevirtual 345, 3), (163, .lreturn, 1), (164, .aload_n 0, 1), (165, .aload_n 0, 1), (166, .getfield 133, 3), (169, .i2l, 1), (170, .invokevirtual 345, 3), (173, .lreturn, 1), (174, .aload_n 0, 1), (175, .aload_n 0, 1), (176, .invokevirtual 303, 3), (179, .invokevirtual 345, 3), (182, .lreturn, 1), (183, .aload_n 0, 1), (184, .aload_n 0, 1), (185, .invokevirtual 351, 3), (188, .i2l, 1), (189, .invokevirtual 345, 3), (192, .lreturn, 1), (193, .aload_n 0, 1), (194, .aload_n 0, 1), (195, .iload_n 1, 1), (196, .invokevirtual 354, 3), (199, .i2l, 1), (200, .invokevirtual 345, 3), (203, .lreturn, 1), (204, .aload_n 0, 1), (205, .aload_n 0, 1), (206, .iload_n 1, 1), (207, .invokevirtual 357, 3), (210, .i2l, 1), (211, .invokevirtual 345, 3), (214, .lreturn, 1), (215, .aload_n 0, 1), (216, .aload_n 0, 1), (217, .aload_n 0, 1), (218, .iload_n 1, 1), (219, .invokevirtual 276, 3), (222, .invokevirtual 233, 3), (225, .i2l, 1), (226, .invokevirtual 345, 3), (229, .lreturn, 1)] = true := by decide +kernel
theorem E244_0 {d sl : Nat} {p : Nat → Nat} {I : Nat → Nat → Int32} {J : Nat → Nat → Int64} (a1 : Int32) (a2 : Int32)  : den (d + 1) 244 [.ref 46, .int a1, .int a2] (S sl p I J) = evK (d + 1) 244 7 [.ref 46, .int a1, .int a2] [] (den d 181 [.int a2, .int 0, .int 11] (S sl p I J)) := by
  refine (show den (d + 1) 244 [.ref 46, .int a1, .int a2] (S sl p I J) = ev (d + 1) 244 0 [.ref 46, .int a1, .int a2] [] (S sl p I J) from rfl).trans ?_
  refine (r_iln (dk D244 0 rfl) rfl).trans ?_
  refine (r_ic (dk D244 1 rfl) ci0).trans ?_
  refine (r_bp (dk D244 2 rfl) cb11).trans ?_
  exact r_cs (dk D244 3 rfl) ow244 pn12_178 c12_178 mf181 (Nat.le_of_ble_eq_true rfl) rfl rfl (Nat.le_of_ble_eq_true rfl) (Nat.le_of_ble_eq_true rfl)
theorem E244_7 {d sl : Nat} {p : Nat → Nat} {I : Nat → Nat → Int32} {J : Nat → Nat → Int64} (l1 : Int32) (l2 : Int32) (s0 : Int32)  : ev (d + 1) 244 7 [.ref 46, .int l1, .int l2] [.int s0] (S sl p I J) = (if s0 = 0 then evK (d + 1) 244 15 [.ref 46, .int l1, .int l2] [] (den d 178 [.ref 46, .int 1] (S sl p I J)) else evK (d + 1) 244 21 [.ref 46, .int l1, .int l2] [] (den d 221 [.ref 46] (S sl p I J))) := by
  refine (r_ne0 (dk D244 4 rfl) rfl).trans (ite2 ?_ ?_)
  · refine (r_aln (dk D244 5 rfl) rfl).trans ?_
    refine (r_ic (dk D244 6 rfl) ci1).trans ?_
    exact r_cv (dk D244 7 rfl) ow244 c12_183 mf178 (Nat.le_of_ble_eq_true rfl) rfl rfl (Nat.le_of_ble_eq_true rfl) (Nat.le_of_ble_eq_true rfl) ob_46
  · refine (r_aln (dk D244 10 rfl) rfl).trans ?_
    exact r_cv (dk D244 11 rfl) ow244 c12_339 mf221 (Nat.le_of_ble_eq_true rfl) rfl rfl (Nat.le_of_ble_eq_true rfl) (Nat.le_of_ble_eq_true rfl) ob_46
theorem E244_15 {d sl : Nat} {p : Nat → Nat} {I : Nat → Nat → Int32} {J : Nat → Nat → Int64} (l1 : Int32) (l2 : Int32) (s0 : Int32)  : ev d 244 15 [.ref 46, .int l1, .int l2] [.int s0] (S sl p I J) = some (some (.long (Int32.toInt64 s0)), (S sl p I J)) := by
  refine (r_i2l (dk D244 8 rfl)).trans ?_
  exact r_rel (dk D244 9 rfl) rt244
theorem E244_21 {d sl : Nat} {p : Nat → Nat} {I : Nat → Nat → Int32} {J : Nat → Nat → Int64} (l1 : Int32) (l2 : Int32)  : ev (d + 1) 244 21 [.ref 46, .int l1, .int l2] [] (S sl p I J) = evK (d + 1) 244 26 [.ref 46, .int l1, .int l2] [] (den d 235 [.ref 46, .int l1] (S sl p I J)) := by
  refine (r_aln (dk D244 12 rfl) rfl).trans ?_
  refine (r_iln (dk D244 13 rfl) rfl).trans ?_
  exact r_cv (dk D244 14 rfl) ow244 c12_324 mf235 (Nat.le_of_ble_eq_true rfl) rfl rfl (Nat.le_of_ble_eq_true rfl) (Nat.le_of_ble_eq_true rfl) ob_46
theorem E244_26 {d sl : Nat} {p : Nat → Nat} {I : Nat → Nat → Int32} {J : Nat → Nat → Int64} (l1 : Int32) (l2 : Int32) (s0 : Int32)  : ev (d + 1) 244 26 [.ref 46, .int l1, .int l2] [.int s0] (S sl p I J) = (if s0 = 0 then evK (d + 1) 244 34 [.ref 46, .int l1, .int l2] [] (den d 178 [.ref 46, .int 2] (S sl p I J)) else evK (d + 1) 244 41 [.ref 46, .int l1, .int l2] [] (den d 219 [.ref 46, .int l1] (S sl p I J))) := by
  refine (r_ne0 (dk D244 15 rfl) rfl).trans (ite2 ?_ ?_)
  · refine (r_aln (dk D244 16 rfl) rfl).trans ?_
    refine (r_ic (dk D244 17 rfl) ci2).trans ?_
    exact r_cv (dk D244 18 rfl) ow244 c12_183 mf178 (Nat.le_of_ble_eq_true rfl) rfl rfl (Nat.le_of_ble_eq_true rfl) (Nat.le_of_ble_eq_true rfl) ob_46
  · refine (r_aln (dk D244 21 rfl) rfl).trans ?_
    refine (r_iln (dk D244 22 rfl) rfl).trans ?_
    exact r_cv (dk D244 23 rfl) ow244 c12_283 mf219 (Nat.le_of_ble_eq_true rfl) rfl rfl (Nat.le_of_ble_eq_true rfl) (Nat.le_of_ble_eq_true rfl) ob_46
theorem E244_34 {d sl : Nat} {p : Nat → Nat} {I : Nat → Nat → Int32} {J : Nat → Nat → Int64} (l1 : Int32) (l2 : Int32) (s0 : Int32)  : ev d 244 34 [.ref 46, .int l1, .int l2] [.int s0] (S sl p I J) = some (some (.long (Int32.toInt64 s0)), (S sl p I J)) := by
  refine (r_i2l (dk D244 19 rfl)).trans ?_
  exact r_rel (dk D244 20 rfl) rt244
theorem E244_41 {d sl : Nat} {p : Nat → Nat} {I : Nat → Nat → Int32} {J : Nat → Nat → Int64} (l1 : Int32) (l2 : Int32)  : ev (d + 1) 244 41 [.ref 46, .int l1, .int l2] [] (S sl p I J) = evK (d + 1) 244 46 [.ref 46, .int l1, .int l2] [] (den d 222 [.ref 46, .int l1] (S sl p I J)) := by
  refine (r_aln (dk D244 24 rfl) rfl).trans ?_
  refine (r_iln (dk D244 25 rfl) rfl).trans ?_
  exact r_cv (dk D244 26 rfl) ow244 c12_342 mf222 (Nat.le_of_ble_eq_true rfl) rfl rfl (Nat.le_of_ble_eq_true rfl) (Nat.le_of_ble_eq_true rfl) ob_46
theorem E244_46 {d sl : Nat} {p : Nat → Nat} {I : Nat → Nat → Int32} {J : Nat → Nat → Int64} (l1 : Int32) (l2 : Int32)  : ev (d + 1) 244 46 [.ref 46, .int l1, .int l2] [] (S sl p I J) = (if l2 = 0 then evK (d + 1) 244 110 [.ref 46, .int l1, .int l2] [.ref 46] (den d 211 [.ref 46, .int l1] (S sl p I J)) else (if l2 = 1 then evK (d + 1) 244 123 [.ref 46, .int l1, .int l2] [] (den d 180 [.ref 46, .long (J 46 35)] (S sl p I J)) else (if l2 = 2 then evK (d + 1) 244 129 [.ref 46, .int l1, .int l2] [.ref 46] (den d 226 [.ref 46] (S sl p I J)) else (if l2 = 3 then evK (d + 1) 244 139 [.ref 46, .int l1, .int l2] [.ref 46] (den d 225 [.ref 46] (S sl p I J)) else (if l2 = 4 then evK (d + 1) 244 153 [.ref 46, .int l1, .int l2] [] (den d 180 [.ref 46, .long (Int32.toInt64 (I 46 23))] (S sl p I J)) else (if l2 = 5 then evK (d + 1) 244 163 [.ref 46, .int l1, .int l2] [] (den d 180 [.ref 46, .long (Int32.toInt64 (I 46 24))] (S sl p I J)) else (if l2 = 6 then evK (d + 1) 244 173 [.ref 46, .int l1, .int l2] [] (den d 180 [.ref 46, .long (Int32.toInt64 (I 46 25))] (S sl p I J)) else (if l2 = 7 then evK (d + 1) 244 179 [.ref 46, .int l1, .int l2] [.ref 46] (den d 227 [.ref 46] (S sl p I J)) else (if l2 = 8 then evK (d + 1) 244 188 [.ref 46, .int l1, .int l2] [.ref 46] (den d 228 [.ref 46] (S sl p I J)) else (if l2 = 9 then evK (d + 1) 244 199 [.ref 46, .int l1, .int l2] [.ref 46] (den d 233 [.ref 46, .int l1] (S sl p I J)) else (if l2 = 10 then evK (d + 1) 244 210 [.ref 46, .int l1, .int l2] [.ref 46] (den d 234 [.ref 46, .int l1] (S sl p I J)) else evK (d + 1) 244 222 [.ref 46, .int l1, .int l2] [.ref 46, .ref 46] (den d 213 [.ref 46, .int l1] (S sl p I J))))))))))))) := by
  refine (r_iln (dk D244 27 rfl) rfl).trans ?_
  by_cases hs0 : l2 = 0
  · rw [if_pos hs0]
    refine (r_sw (t := 104) (dk D244 28 rfl) (by rw [hs0]; rfl)).trans ?_
    refine (r_aln (dk D244 29 rfl) rfl).trans ?_
    refine (r_aln (dk D244 30 rfl) rfl).trans ?_
    refine (r_iln (dk D244 31 rfl) rfl).trans ?_
    exact r_cv (dk D244 32 rfl) ow244 c12_330 mf211 (Nat.le_of_ble_eq_true rfl) rfl rfl (Nat.le_of_ble_eq_true rfl) (Nat.le_of_ble_eq_true rfl) ob_46
  rw [if_neg hs0]
  by_cases hs1 : l2 = 1
  · rw [if_pos hs1]
    refine (r_sw (t := 115) (dk D244 28 rfl) (by rw [hs1]; rfl)).trans ?_
    refine (r_aln (dk D244 36 rfl) rfl).trans ?_
    refine (r_aln (dk D244 37 rfl) rfl).trans ?_
    refine (r_getJ (dk D244 38 rfl) ow244 q12_260 ob_46).trans ?_
    exact r_cv (dk D244 39 rfl) ow244 c12_345 mf180 (Nat.le_of_ble_eq_true rfl) rfl rfl (Nat.le_of_ble_eq_true rfl) (Nat.le_of_ble_eq_true rfl) ob_46
  rw [if_neg hs1]
  by_cases hs2 : l2 = 2
  · rw [if_pos hs2]
    refine (r_sw (t := 124) (dk D244 28 rfl) (by rw [hs2]; rfl)).trans ?_
    refine (r_aln (dk D244 41 rfl) rfl).trans ?_
    refine (r_aln (dk D244 42 rfl) rfl).trans ?_
    exact r_cv (dk D244 43 rfl) ow244 c12_348 mf226 (Nat.le_of_ble_eq_true rfl) rfl rfl (Nat.le_of_ble_eq_true rfl) (Nat.le_of_ble_eq_true rfl) ob_46
  rw [if_neg hs2]
  by_cases hs3 : l2 = 3
  · rw [if_pos hs3]
    refine (r_sw (t := 134) (dk D244 28 rfl) (by rw [hs3]; rfl)).trans ?_
    refine (r_aln (dk D244 47 rfl) rfl).trans ?_
    refine (r_aln (dk D244 48 rfl) rfl).trans ?_
    exact r_cv (dk D244 49 rfl) ow244 c12_300 mf225 (Nat.le_of_ble_eq_true rfl) rfl rfl (Nat.le_of_ble_eq_true rfl) (Nat.le_of_ble_eq_true rfl) ob_46
  rw [if_neg hs3]
  by_cases hs4 : l2 = 4
  · rw [if_pos hs4]
    refine (r_sw (t := 144) (dk D244 28 rfl) (by rw [hs4]; rfl)).trans ?_
    refine (r_aln (dk D244 53 rfl) rfl).trans ?_
    refine (r_aln (dk D244 54 rfl) rfl).trans ?_
    refine (r_getI (dk D244 55 rfl) ow244 q12_127 ob_46).trans ?_
    refine (r_i2l (dk D244 56 rfl)).trans ?_
    exact r_cv (dk D244 57 rfl) ow244 c12_345 mf180 (Nat.le_of_ble_eq_true rfl) rfl rfl (Nat.le_of_ble_eq_true rfl) (Nat.le_of_ble_eq_true rfl) ob_46
  rw [if_neg hs4]
  by_cases hs5 : l2 = 5
  · rw [if_pos hs5]
    refine (r_sw (t := 154) (dk D244 28 rfl) (by rw [hs5]; rfl)).trans ?_
    refine (r_aln (dk D244 59 rfl) rfl).trans ?_
    refine (r_aln (dk D244 60 rfl) rfl).trans ?_
    refine (r_getI (dk D244 61 rfl) ow244 q12_130 ob_46).trans ?_
    refine (r_i2l (dk D244 62 rfl)).trans ?_
    exact r_cv (dk D244 63 rfl) ow244 c12_345 mf180 (Nat.le_of_ble_eq_true rfl) rfl rfl (Nat.le_of_ble_eq_true rfl) (Nat.le_of_ble_eq_true rfl) ob_46
  rw [if_neg hs5]
  by_cases hs6 : l2 = 6
  · rw [if_pos hs6]
    refine (r_sw (t := 164) (dk D244 28 rfl) (by rw [hs6]; rfl)).trans ?_
    refine (r_aln (dk D244 65 rfl) rfl).trans ?_
    refine (r_aln (dk D244 66 rfl) rfl).trans ?_
    refine (r_getI (dk D244 67 rfl) ow244 q12_133 ob_46).trans ?_
    refine (r_i2l (dk D244 68 rfl)).trans ?_
    exact r_cv (dk D244 69 rfl) ow244 c12_345 mf180 (Nat.le_of_ble_eq_true rfl) rfl rfl (Nat.le_of_ble_eq_true rfl) (Nat.le_of_ble_eq_true rfl) ob_46
  rw [if_neg hs6]
  by_cases hs7 : l2 = 7
  · rw [if_pos hs7]
    refine (r_sw (t := 174) (dk D244 28 rfl) (by rw [hs7]; rfl)).trans ?_
    refine (r_aln (dk D244 71 rfl) rfl).trans ?_
    refine (r_aln (dk D244 72 rfl) rfl).trans ?_
    exact r_cv (dk D244 73 rfl) ow244 c12_303 mf227 (Nat.le_of_ble_eq_true rfl) rfl rfl (Nat.le_of_ble_eq_true rfl) (Nat.le_of_ble_eq_true rfl) ob_46
  rw [if_neg hs7]
  by_cases hs8 : l2 = 8
  · rw [if_pos hs8]
    refine (r_sw (t := 183) (dk D244 28 rfl) (by rw [hs8]; rfl)).trans ?_
    refine (r_aln (dk D244 76 rfl) rfl).trans ?_
    refine (r_aln (dk D244 77 rfl) rfl).trans ?_
    exact r_cv (dk D244 78 rfl) ow244 c12_351 mf228 (Nat.le_of_ble_eq_true rfl) rfl rfl (Nat.le_of_ble_eq_true rfl) (Nat.le_of_ble_eq_true rfl) ob_46
  rw [if_neg hs8]
  by_cases hs9 : l2 = 9
  · rw [if_pos hs9]
    refine (r_sw (t := 193) (dk D244 28 rfl) (by rw [hs9]; rfl)).trans ?_
    refine (r_aln (dk D244 82 rfl) rfl).trans ?_
    refine (r_aln (dk D244 83 rfl) rfl).trans ?_
    refine (r_iln (dk D244 84 rfl) rfl).trans ?_
    exact r_cv (dk D244 85 rfl) ow244 c12_354 mf233 (Nat.le_of_ble_eq_true rfl) rfl rfl (Nat.le_of_ble_eq_true rfl) (Nat.le_of_ble_eq_true rfl) ob_46
  rw [if_neg hs9]
  by_cases hs10 : l2 = 10
  · rw [if_pos hs10]
    refine (r_sw (t := 204) (dk D244 28 rfl) (by rw [hs10]; rfl)).trans ?_
    refine (r_aln (dk D244 89 rfl) rfl).trans ?_
    refine (r_aln (dk D244 90 rfl) rfl).trans ?_
    refine (r_iln (dk D244 91 rfl) rfl).trans ?_
    exact r_cv (dk D244 92 rfl) ow244 c12_357 mf234 (Nat.le_of_ble_eq_true rfl) rfl rfl (Nat.le_of_ble_eq_true rfl) (Nat.le_of_ble_eq_true rfl) ob_46
  rw [if_neg hs10]
  refine (r_swd (t := 215) (dk D244 28 rfl) (swd_11 hs0 hs1 hs2 hs3 hs4 hs5 hs6 hs7 hs8 hs9 hs10) rfl).trans ?_
  refine (r_aln (dk D244 96 rfl) rfl).trans ?_
  refine (r_aln (dk D244 97 rfl) rfl).trans ?_
  refine (r_aln (dk D244 98 rfl) rfl).trans ?_
  refine (r_iln (dk D244 99 rfl) rfl).trans ?_
  exact r_cv (dk D244 100 rfl) ow244 c12_276 mf213 (Nat.le_of_ble_eq_true rfl) rfl rfl (Nat.le_of_ble_eq_true rfl) (Nat.le_of_ble_eq_true rfl) ob_46
theorem E244_110 {d sl : Nat} {p : Nat → Nat} {I : Nat → Nat → Int32} {J : Nat → Nat → Int64} (l1 : Int32) (l2 : Int32) (s0 : Int32)  : ev (d + 1) 244 110 [.ref 46, .int l1, .int l2] [.int s0, .ref 46] (S sl p I J) = evK (d + 1) 244 114 [.ref 46, .int l1, .int l2] [] (den d 180 [.ref 46, .long (Int32.toInt64 s0)] (S sl p I J)) := by
  refine (r_i2l (dk D244 33 rfl)).trans ?_
  exact r_cv (dk D244 34 rfl) ow244 c12_345 mf180 (Nat.le_of_ble_eq_true rfl) rfl rfl (Nat.le_of_ble_eq_true rfl) (Nat.le_of_ble_eq_true rfl) ob_46
theorem E244_114 {d sl : Nat} {p : Nat → Nat} {I : Nat → Nat → Int32} {J : Nat → Nat → Int64} (l1 : Int32) (l2 : Int32) (s0 : Int64)  : ev d 244 114 [.ref 46, .int l1, .int l2] [.long s0] (S sl p I J) = some (some (.long s0), (S sl p I J)) := by
  exact r_rel (dk D244 35 rfl) rt244
theorem E244_123 {d sl : Nat} {p : Nat → Nat} {I : Nat → Nat → Int32} {J : Nat → Nat → Int64} (l1 : Int32) (l2 : Int32) (s0 : Int64)  : ev d 244 123 [.ref 46, .int l1, .int l2] [.long s0] (S sl p I J) = some (some (.long s0), (S sl p I J)) := by
  exact r_rel (dk D244 40 rfl) rt244
theorem E244_129 {d sl : Nat} {p : Nat → Nat} {I : Nat → Nat → Int32} {J : Nat → Nat → Int64} (l1 : Int32) (l2 : Int32) (s0 : Int32)  : ev (d + 1) 244 129 [.ref 46, .int l1, .int l2] [.int s0, .ref 46] (S sl p I J) = evK (d + 1) 244 133 [.ref 46, .int l1, .int l2] [] (den d 180 [.ref 46, .long (Int32.toInt64 s0)] (S sl p I J)) := by
  refine (r_i2l (dk D244 44 rfl)).trans ?_
  exact r_cv (dk D244 45 rfl) ow244 c12_345 mf180 (Nat.le_of_ble_eq_true rfl) rfl rfl (Nat.le_of_ble_eq_true rfl) (Nat.le_of_ble_eq_true rfl) ob_46
theorem E244_133 {d sl : Nat} {p : Nat → Nat} {I : Nat → Nat → Int32} {J : Nat → Nat → Int64} (l1 : Int32) (l2 : Int32) (s0 : Int64)  : ev d 244 133 [.ref 46, .int l1, .int l2] [.long s0] (S sl p I J) = some (some (.long s0), (S sl p I J)) := by
  exact r_rel (dk D244 46 rfl) rt244
theorem E244_139 {d sl : Nat} {p : Nat → Nat} {I : Nat → Nat → Int32} {J : Nat → Nat → Int64} (l1 : Int32) (l2 : Int32) (s0 : Int32)  : ev (d + 1) 244 139 [.ref 46, .int l1, .int l2] [.int s0, .ref 46] (S sl p I J) = evK (d + 1) 244 143 [.ref 46, .int l1, .int l2] [] (den d 180 [.ref 46, .long (Int32.toInt64 s0)] (S sl p I J)) := by
  refine (r_i2l (dk D244 50 rfl)).trans ?_
  exact r_cv (dk D244 51 rfl) ow244 c12_345 mf180 (Nat.le_of_ble_eq_true rfl) rfl rfl (Nat.le_of_ble_eq_true rfl) (Nat.le_of_ble_eq_true rfl) ob_46
theorem E244_143 {d sl : Nat} {p : Nat → Nat} {I : Nat → Nat → Int32} {J : Nat → Nat → Int64} (l1 : Int32) (l2 : Int32) (s0 : Int64)  : ev d 244 143 [.ref 46, .int l1, .int l2] [.long s0] (S sl p I J) = some (some (.long s0), (S sl p I J)) := by
  exact r_rel (dk D244 52 rfl) rt244
theorem E244_153 {d sl : Nat} {p : Nat → Nat} {I : Nat → Nat → Int32} {J : Nat → Nat → Int64} (l1 : Int32) (l2 : Int32) (s0 : Int64)  : ev d 244 153 [.ref 46, .int l1, .int l2] [.long s0] (S sl p I J) = some (some (.long s0), (S sl p I J)) := by
  exact r_rel (dk D244 58 rfl) rt244
theorem E244_163 {d sl : Nat} {p : Nat → Nat} {I : Nat → Nat → Int32} {J : Nat → Nat → Int64} (l1 : Int32) (l2 : Int32) (s0 : Int64)  : ev d 244 163 [.ref 46, .int l1, .int l2] [.long s0] (S sl p I J) = some (some (.long s0), (S sl p I J)) := by
  exact r_rel (dk D244 64 rfl) rt244
theorem E244_173 {d sl : Nat} {p : Nat → Nat} {I : Nat → Nat → Int32} {J : Nat → Nat → Int64} (l1 : Int32) (l2 : Int32) (s0 : Int64)  : ev d 244 173 [.ref 46, .int l1, .int l2] [.long s0] (S sl p I J) = some (some (.long s0), (S sl p I J)) := by
  exact r_rel (dk D244 70 rfl) rt244
theorem E244_179 {d sl : Nat} {p : Nat → Nat} {I : Nat → Nat → Int32} {J : Nat → Nat → Int64} (l1 : Int32) (l2 : Int32) (s0 : Int64)  : ev (d + 1) 244 179 [.ref 46, .int l1, .int l2] [.long s0, .ref 46] (S sl p I J) = evK (d + 1) 244 182 [.ref 46, .int l1, .int l2] [] (den d 180 [.ref 46, .long s0] (S sl p I J)) := by
  exact r_cv (dk D244 74 rfl) ow244 c12_345 mf180 (Nat.le_of_ble_eq_true rfl) rfl rfl (Nat.le_of_ble_eq_true rfl) (Nat.le_of_ble_eq_true rfl) ob_46
theorem E244_182 {d sl : Nat} {p : Nat → Nat} {I : Nat → Nat → Int32} {J : Nat → Nat → Int64} (l1 : Int32) (l2 : Int32) (s0 : Int64)  : ev d 244 182 [.ref 46, .int l1, .int l2] [.long s0] (S sl p I J) = some (some (.long s0), (S sl p I J)) := by
  exact r_rel (dk D244 75 rfl) rt244
theorem E244_188 {d sl : Nat} {p : Nat → Nat} {I : Nat → Nat → Int32} {J : Nat → Nat → Int64} (l1 : Int32) (l2 : Int32) (s0 : Int32)  : ev (d + 1) 244 188 [.ref 46, .int l1, .int l2] [.int s0, .ref 46] (S sl p I J) = evK (d + 1) 244 192 [.ref 46, .int l1, .int l2] [] (den d 180 [.ref 46, .long (Int32.toInt64 s0)] (S sl p I J)) := by
  refine (r_i2l (dk D244 79 rfl)).trans ?_
  exact r_cv (dk D244 80 rfl) ow244 c12_345 mf180 (Nat.le_of_ble_eq_true rfl) rfl rfl (Nat.le_of_ble_eq_true rfl) (Nat.le_of_ble_eq_true rfl) ob_46
theorem E244_192 {d sl : Nat} {p : Nat → Nat} {I : Nat → Nat → Int32} {J : Nat → Nat → Int64} (l1 : Int32) (l2 : Int32) (s0 : Int64)  : ev d 244 192 [.ref 46, .int l1, .int l2] [.long s0] (S sl p I J) = some (some (.long s0), (S sl p I J)) := by
  exact r_rel (dk D244 81 rfl) rt244
theorem E244_199 {d sl : Nat} {p : Nat → Nat} {I : Nat → Nat → Int32} {J : Nat → Nat → Int64} (l1 : Int32) (l2 : Int32) (s0 : Int32)  : ev (d + 1) 244 199 [.ref 46, .int l1, .int l2] [.int s0, .ref 46] (S sl p I J) = evK (d + 1) 244 203 [.ref 46, .int l1, .int l2] [] (den d 180 [.ref 46, .long (Int32.toInt64 s0)] (S sl p I J)) := by
  refine (r_i2l (dk D244 86 rfl)).trans ?_
  exact r_cv (dk D244 87 rfl) ow244 c12_345 mf180 (Nat.le_of_ble_eq_true rfl) rfl rfl (Nat.le_of_ble_eq_true rfl) (Nat.le_of_ble_eq_true rfl) ob_46
theorem E244_203 {d sl : Nat} {p : Nat → Nat} {I : Nat → Nat → Int32} {J : Nat → Nat → Int64} (l1 : Int32) (l2 : Int32) (s0 : Int64)  : ev d 244 203 [.ref 46, .int l1, .int l2] [.long s0] (S sl p I J) = some (some (.long s0), (S sl p I J)) := by
  exact r_rel (dk D244 88 rfl) rt244
theorem E244_210 {d sl : Nat} {p : Nat → Nat} {I : Nat → Nat → Int32} {J : Nat → Nat → Int64} (l1 : Int32) (l2 : Int32) (s0 : Int32)  : ev (d + 1) 244 210 [.ref 46, .int l1, .int l2] [.int s0, .ref 46] (S sl p I J) = evK (d + 1) 244 214 [.ref 46, .int l1, .int l2] [] (den d 180 [.ref 46, .long (Int32.toInt64 s0)] (S sl p I J)) := by
  refine (r_i2l (dk D244 93 rfl)).trans ?_
  exact r_cv (dk D244 94 rfl) ow244 c12_345 mf180 (Nat.le_of_ble_eq_true rfl) rfl rfl (Nat.le_of_ble_eq_true rfl) (Nat.le_of_ble_eq_true rfl) ob_46
theorem E244_214 {d sl : Nat} {p : Nat → Nat} {I : Nat → Nat → Int32} {J : Nat → Nat → Int64} (l1 : Int32) (l2 : Int32) (s0 : Int64)  : ev d 244 214 [.ref 46, .int l1, .int l2] [.long s0] (S sl p I J) = some (some (.long s0), (S sl p I J)) := by
  exact r_rel (dk D244 95 rfl) rt244
theorem E244_222 {d sl : Nat} {p : Nat → Nat} {I : Nat → Nat → Int32} {J : Nat → Nat → Int64} (l1 : Int32) (l2 : Int32) (s0 : Int32)  : ev (d + 1) 244 222 [.ref 46, .int l1, .int l2] [.int s0, .ref 46, .ref 46] (S sl p I J) = evK (d + 1) 244 225 [.ref 46, .int l1, .int l2] [.ref 46] (den d 207 [.ref 46, .int s0] (S sl p I J)) := by
  exact r_cv (dk D244 101 rfl) ow244 c12_233 mf207 (Nat.le_of_ble_eq_true rfl) rfl rfl (Nat.le_of_ble_eq_true rfl) (Nat.le_of_ble_eq_true rfl) ob_46
theorem E244_225 {d sl : Nat} {p : Nat → Nat} {I : Nat → Nat → Int32} {J : Nat → Nat → Int64} (l1 : Int32) (l2 : Int32) (s0 : Int32)  : ev (d + 1) 244 225 [.ref 46, .int l1, .int l2] [.int s0, .ref 46] (S sl p I J) = evK (d + 1) 244 229 [.ref 46, .int l1, .int l2] [] (den d 180 [.ref 46, .long (Int32.toInt64 s0)] (S sl p I J)) := by
  refine (r_i2l (dk D244 102 rfl)).trans ?_
  exact r_cv (dk D244 103 rfl) ow244 c12_345 mf180 (Nat.le_of_ble_eq_true rfl) rfl rfl (Nat.le_of_ble_eq_true rfl) (Nat.le_of_ble_eq_true rfl) ob_46
theorem E244_229 {d sl : Nat} {p : Nat → Nat} {I : Nat → Nat → Int32} {J : Nat → Nat → Int64} (l1 : Int32) (l2 : Int32) (s0 : Int64)  : ev d 244 229 [.ref 46, .int l1, .int l2] [.long s0] (S sl p I J) = some (some (.long s0), (S sl p I J)) := by
  exact r_rel (dk D244 104 rfl) rt244
set_option maxRecDepth 20000 in
theorem D245 : dOK 245 [(0, .iload_n 2, 1), (1, .istore_n 3, 1), (2, .iconst 0, 1), (3, .istore 4, 2), (5, .iload 4, 2), (7, .aload_n 0, 1), (8, .getfield 196, 3), (11, .if_icmp .ge 33, 3), (14, .aload_n 0, 1), (15, .getfield 71, 3), (18, .iload 4, 2), (20, .iaload, 1), (21, .iload_n 1, 1), (22, .if_icmp .eq 6, 3), (25, .goto 13, 3), (28, .iload_n 3, 1), (29, .ifCond .ne 6, 3), (32, .iload 4, 2), (34, .ireturn, 1), (35, .iinc 3 (-1), 3), (38, .iinc 4 1, 3), (41, .goto (-36), 3), (44, .iconst (-1), 1), (45, .ireturn, 1)] = true := by decide +kernel
theorem E245_0 {d sl : Nat} {p : Nat → Nat} {I : Nat → Nat → Int32} {J : Nat → Nat → Int64} (a1 : Int32) (a2 : Int32)  : den d 245 [.ref 46, .int a1, .int a2] (S sl p I J) = ev d 245 5 [.ref 46, .int a1, .int a2, .int a2, .int 0] [] (S sl p I J) := by
  refine (show den d 245 [.ref 46, .int a1, .int a2] (S sl p I J) = ev d 245 0 [.ref 46, .int a1, .int a2, .retAddr 0, .retAddr 0] [] (S sl p I J) from rfl).trans ?_
  refine (r_iln (dk D245 0 rfl) rfl).trans ?_
  refine (r_isn (L' := [.ref 46, .int a1, .int a2, .int a2, .retAddr 0]) (dk D245 1 rfl) (Nat.le_of_ble_eq_true rfl) rfl).trans ?_
  refine (r_ic (dk D245 2 rfl) ci0).trans ?_
  refine (r_is (L' := [.ref 46, .int a1, .int a2, .int a2, .int 0]) (dk D245 3 rfl) (Nat.le_of_ble_eq_true rfl) rfl).trans ?_
  exact rfl
theorem E245_5 {d sl : Nat} {p : Nat → Nat} {I : Nat → Nat → Int32} {J : Nat → Nat → Int64} (l1 : Int32) (l2 : Int32) (l3 : Int32) (l4 : Int32)  : ev d 245 5 [.ref 46, .int l1, .int l2, .int l3, .int l4] [] (S sl p I J) = (if l4 < (I 46 2) then ck (ixb 60 l4) ((if (I 61 (Int32.toNatClampNeg l4)) = l1 then (if l3 = 0 then some (some (.int l4), (S sl p I J)) else ev d 245 5 [.ref 46, .int l1, .int l2, .int (l3 + (-1)), .int (l4 + 1)] [] (S sl p I J)) else ev d 245 5 [.ref 46, .int l1, .int l2, .int l3, .int (l4 + 1)] [] (S sl p I J))) else some (some (.int (-1)), (S sl p I J))) := by
  refine (r_il (dk D245 4 rfl) rfl).trans ?_
  refine (r_aln (dk D245 5 rfl) rfl).trans ?_
  refine (r_getI (dk D245 6 rfl) ow245 q12_196 ob_46).trans ?_
  refine (r_ge (dk D245 7 rfl) rfl).trans (ite2 ?_ ?_)
  · refine (r_aln (dk D245 8 rfl) rfl).trans ?_
    refine (r_getR (dk D245 9 rfl) ow245 q12_71 ob_46 rfl).trans ?_
    refine (r_il (dk D245 10 rfl) rfl).trans ?_
    refine (r_ild (dk D245 11 rfl) ar_61).trans (ck3 fun g1 => ?_)
    refine (r_iln (dk D245 12 rfl) rfl).trans ?_
    refine (r_eq (dk D245 13 rfl) rfl).trans (ite2 ?_ ?_)
    · refine (r_iln (dk D245 15 rfl) rfl).trans ?_
      refine (r_ne0 (dk D245 16 rfl) rfl).trans (ite2 ?_ ?_)
      · refine (r_il (dk D245 17 rfl) rfl).trans ?_
        exact r_ret (dk D245 18 rfl) rt245
      · refine (r_inc (L' := [.ref 46, .int l1, .int l2, .int (l3 + (-1)), .int l4]) (dk D245 19 rfl) rfl rfl cim1 (Nat.le_of_ble_eq_true rfl) rfl).trans ?_
        refine (r_inc (L' := [.ref 46, .int l1, .int l2, .int (l3 + (-1)), .int (l4 + 1)]) (dk D245 20 rfl) rfl rfl ci1 (Nat.le_of_ble_eq_true rfl) rfl).trans ?_
        refine (r_goto (L' := [.ref 46, .int l1, .int l2, .int (l3 + (-1)), .int (l4 + 1)]) (dk D245 21 rfl) rfl nd245_5 rfl).trans ?_
        exact rfl
    · refine (r_goto (L' := [.ref 46, .int l1, .int l2, .int l3, .int l4]) (dk D245 14 rfl) rfl nd245_38 rfl).trans ?_
      refine (r_inc (L' := [.ref 46, .int l1, .int l2, .int l3, .int (l4 + 1)]) (dk D245 20 rfl) rfl rfl ci1 (Nat.le_of_ble_eq_true rfl) rfl).trans ?_
      refine (r_goto (L' := [.ref 46, .int l1, .int l2, .int l3, .int (l4 + 1)]) (dk D245 21 rfl) rfl nd245_5 rfl).trans ?_
      exact rfl
  · refine (r_ic (dk D245 22 rfl) cim1).trans ?_
    exact r_ret (dk D245 23 rfl) rt245
set_option maxRecDepth 20000 in
theorem D246 : dOK 246 [(0, .iload_n 2, 1), (1, .ifCond .ge 9, 3), (4, .aload_n 0, 1), (5, .iconst 1, 1), (6, .invokevirtual 183, 3), (9, .ireturn, 1), (10, .aload_n 0, 1), (11, .invokevirtual 216, 3), (14, .aload_n 0, 1), (15, .iload_n 1, 1), (16, .invokevirtual 324, 3), (19, .ifCond .ne 9, 3), (22, .aload_n 0, 1), (23, .iconst 2, 1), (24, .invokevirtual 183, 3), (27, .ireturn, 1), (28, .aload_n 0, 1), (29, .iload_n 1, 1), (30, .iload_n 2, 1), (31, .invokevirtual 360, 3), (34, .istore_n 3, 1), (35, .iload_n 3, 1), (36, .iconst (-1), 1), (37, .if_icmp .ne 11, 3), (40, .aload_n 0, 1), (41, .iconst 5, 1), (42, .invokevirtual 183, 3), (45, .goto 8, 3), (48, .aload_n 0, 1), (49, .iload_n 3, 1), (50, .invokevirtual 193, 3), (53, .ireturn, 1)] = true := by decide +kernel
theorem E246_0 {d sl : Nat} {p : Nat → Nat} {I : Nat → Nat → Int32} {J : Nat → Nat → Int64} (a1 : Int32) (a2 : Int32)  : den (d + 1) 246 [.ref 46, .int a1, .int a2] (S sl p I J) = (if a2 < 0 then evK (d + 1) 246 9 [.ref 46, .int a1, .int a2, .retAddr 0] [] (den d 178 [.ref 46, .int 1] (S sl p I J)) else evK (d + 1) 246 14 [.ref 46, .int a1, .int a2, .retAddr 0] [] (den d 210 [.ref 46] (S sl p I J))) := by
  refine (show den (d + 1) 246 [.ref 46, .int a1, .int a2] (S sl p I J) = ev (d + 1) 246 0 [.ref 46, .int a1, .int a2, .retAddr 0] [] (S sl p I J) from rfl).trans ?_
  refine (r_iln (dk D246 0 rfl) rfl).trans ?_
  refine (r_ge0 (dk D246 1 rfl) rfl).trans (ite2 ?_ ?_)
  · refine (r_aln (dk D246 2 rfl) rfl).trans ?_
    refine (r_ic (dk D246 3 rfl) ci1).trans ?_
    exact r_cv (dk D246 4 rfl) ow246 c12_183 mf178 (Nat.le_of_ble_eq_true rfl) rfl rfl (Nat.le_of_ble_eq_true rfl) (Nat.le_of_ble_eq_true rfl) ob_46
  · refine (r_aln (dk D246 6 rfl) rfl).trans ?_
    exact r_cv (dk D246 7 rfl) ow246 c12_216 mf210 (Nat.le_of_ble_eq_true rfl) rfl rfl (Nat.le_of_ble_eq_true rfl) (Nat.le_of_ble_eq_true rfl) ob_46
theorem E246_9 {d sl : Nat} {p : Nat → Nat} {I : Nat → Nat → Int32} {J : Nat → Nat → Int64} (l1 : Int32) (l2 : Int32) (s0 : Int32)  : ev d 246 9 [.ref 46, .int l1, .int l2, .retAddr 0] [.int s0] (S sl p I J) = some (some (.int s0), (S sl p I J)) := by
  exact r_ret (dk D246 5 rfl) rt246
theorem E246_14 {d sl : Nat} {p : Nat → Nat} {I : Nat → Nat → Int32} {J : Nat → Nat → Int64} (l1 : Int32) (l2 : Int32)  : ev (d + 1) 246 14 [.ref 46, .int l1, .int l2, .retAddr 0] [] (S sl p I J) = evK (d + 1) 246 19 [.ref 46, .int l1, .int l2, .retAddr 0] [] (den d 235 [.ref 46, .int l1] (S sl p I J)) := by
  refine (r_aln (dk D246 8 rfl) rfl).trans ?_
  refine (r_iln (dk D246 9 rfl) rfl).trans ?_
  exact r_cv (dk D246 10 rfl) ow246 c12_324 mf235 (Nat.le_of_ble_eq_true rfl) rfl rfl (Nat.le_of_ble_eq_true rfl) (Nat.le_of_ble_eq_true rfl) ob_46
theorem E246_19 {d sl : Nat} {p : Nat → Nat} {I : Nat → Nat → Int32} {J : Nat → Nat → Int64} (l1 : Int32) (l2 : Int32) (s0 : Int32)  : ev (d + 1) 246 19 [.ref 46, .int l1, .int l2, .retAddr 0] [.int s0] (S sl p I J) = (if s0 = 0 then evK (d + 1) 246 27 [.ref 46, .int l1, .int l2, .retAddr 0] [] (den d 178 [.ref 46, .int 2] (S sl p I J)) else evK (d + 1) 246 34 [.ref 46, .int l1, .int l2, .retAddr 0] [] (den d 245 [.ref 46, .int l1, .int l2] (S sl p I J))) := by
  refine (r_ne0 (dk D246 11 rfl) rfl).trans (ite2 ?_ ?_)
  · refine (r_aln (dk D246 12 rfl) rfl).trans ?_
    refine (r_ic (dk D246 13 rfl) ci2).trans ?_
    exact r_cv (dk D246 14 rfl) ow246 c12_183 mf178 (Nat.le_of_ble_eq_true rfl) rfl rfl (Nat.le_of_ble_eq_true rfl) (Nat.le_of_ble_eq_true rfl) ob_46
  · refine (r_aln (dk D246 16 rfl) rfl).trans ?_
    refine (r_iln (dk D246 17 rfl) rfl).trans ?_
    refine (r_iln (dk D246 18 rfl) rfl).trans ?_
    exact r_cv (dk D246 19 rfl) ow246 c12_360 mf245 (Nat.le_of_ble_eq_true rfl) rfl rfl (Nat.le_of_ble_eq_true rfl) (Nat.le_of_ble_eq_true rfl) ob_46
theorem E246_27 {d sl : Nat} {p : Nat → Nat} {I : Nat → Nat → Int32} {J : Nat → Nat → Int64} (l1 : Int32) (l2 : Int32) (s0 : Int32)  : ev d 246 27 [.ref 46, .int l1, .int l2, .retAddr 0] [.int s0] (S sl p I J) = some (some (.int s0), (S sl p I J)) := by
  exact r_ret (dk D246 15 rfl) rt246
theorem E246_34 {d sl : Nat} {p : Nat → Nat} {I : Nat → Nat → Int32} {J : Nat → Nat → Int64} (l1 : Int32) (l2 : Int32) (s0 : Int32)  : ev (d + 1) 246 34 [.ref 46, .int l1, .int l2, .retAddr 0] [.int s0] (S sl p I J) = (if s0 = (-1) then evK (d + 1) 246 45 [.ref 46, .int l1, .int l2, .int s0] [] (den d 178 [.ref 46, .int 5] (S sl p I J)) else evK (d + 1) 246 53 [.ref 46, .int l1, .int l2, .int s0] [] (den d 179 [.ref 46, .int s0] (S sl p I J))) := by
  refine (r_isn (L' := [.ref 46, .int l1, .int l2, .int s0]) (dk D246 20 rfl) (Nat.le_of_ble_eq_true rfl) rfl).trans ?_
  refine (r_iln (dk D246 21 rfl) rfl).trans ?_
  refine (r_ic (dk D246 22 rfl) cim1).trans ?_
  refine (r_ne (dk D246 23 rfl) rfl).trans (ite2 ?_ ?_)
  · refine (r_aln (dk D246 24 rfl) rfl).trans ?_
    refine (r_ic (dk D246 25 rfl) ci5).trans ?_
    exact r_cv (dk D246 26 rfl) ow246 c12_183 mf178 (Nat.le_of_ble_eq_true rfl) rfl rfl (Nat.le_of_ble_eq_true rfl) (Nat.le_of_ble_eq_true rfl) ob_46
  · refine (r_aln (dk D246 28 rfl) rfl).trans ?_
    refine (r_iln (dk D246 29 rfl) rfl).trans ?_
    exact r_cv (dk D246 30 rfl) ow246 c12_193 mf179 (Nat.le_of_ble_eq_true rfl) rfl rfl (Nat.le_of_ble_eq_true rfl) (Nat.le_of_ble_eq_true rfl) ob_46
theorem E246_45 {d sl : Nat} {p : Nat → Nat} {I : Nat → Nat → Int32} {J : Nat → Nat → Int64} (l1 : Int32) (l2 : Int32) (l3 : Int32) (s0 : Int32)  : ev d 246 45 [.ref 46, .int l1, .int l2, .int l3] [.int s0] (S sl p I J) = some (some (.int s0), (S sl p I J)) := by
  refine (r_goto (L' := [.ref 46, .int l1, .int l2, .int l3]) (dk D246 27 rfl) rfl nd246_53 rfl).trans ?_
  exact r_ret (dk D246 31 rfl) rt246
theorem E246_53 {d sl : Nat} {p : Nat → Nat} {I : Nat → Nat → Int32} {J : Nat → Nat → Int64} (l1 : Int32) (l2 : Int32) (l3 : Int32) (s0 : Int32)  : ev d 246 53 [.ref 46, .int l1, .int l2, .int l3] [.int s0] (S sl p I J) = some (some (.int s0), (S sl p I J)) := by
  exact r_ret (dk D246 31 rfl) rt246
set_option maxRecDepth 20000 in
theorem D247 : dOK 247 [(0, .iload_n 1, 1), (1, .ifCond .ge 9, 3), (4, .aload_n 0, 1), (5, .iconst 1, 1), (6, .invokevirtual 183, 3), (9, .ireturn, 1), (10, .aload_n 0, 1), (11, .invokevirtual 216, 3), (14, .aload_n 0, 1), (15, .iconst (-1), 1), (16, .iload_n 1, 1), (17, .invokevirtual 360, 3), (20, .istore_n 2, 1), (21, .iload_n 2, 1), (22, .iconst (-1), 1), (23, .if_icmp .ne 11, 3), (26, .aload_n 0, 1), (27, .iconst 5, 1), (28, .invokevirtual 183, 3), (31, .goto 8, 3), (34, .aload_n 0, 1), (35, .iload_n 2, 1), (36, .invokevirtual 193, 3), (39, .ireturn, 1)] = true := by decide +kernel
theorem E247_0 {d sl : Nat} {p : Nat → Nat} {I : Nat → Nat → Int32} {J : Nat → Nat → Int64} (a1 : Int32)  : den (d + 1) 247 [.ref 46, .int a1] (S sl p I J) = (if a1 < 0 then evK (d + 1) 247 9 [.ref 46, .int a1, .retAddr 0] [] (den d 178 [.ref 46, .int 1] (S sl p I J)) else evK (d + 1) 247 14 [.ref 46, .int a1, .retAddr 0] [] (den d 210 [.ref 46] (S sl p I J))) := by
  refine (show den (d + 1) 247 [.ref 46, .int a1] (S sl p I J) = ev (d + 1) 247 0 [.ref 46, .int a1, .retAddr 0] [] (S sl p I J) from rfl).trans ?_
  refine (r_iln (dk D247 0 rfl) rfl).trans ?_
  refine (r_ge0 (dk D247 1 rfl) rfl).trans (ite2 ?_ ?_)
  · refine (r_aln (dk D247 2 rfl) rfl).trans ?_
    refine (r_ic (dk D247 3 rfl) ci1).trans ?_
    exact r_cv (dk D247 4 rfl) ow247 c12_183 mf178 (Nat.le_of_ble_eq_true rfl) rfl rfl (Nat.le_of_ble_eq_true rfl) (Nat.le_of_ble_eq_true rfl) ob_46
  · refine (r_aln (dk D247 6 rfl) rfl).trans ?_
    exact r_cv (dk D247 7 rfl) ow247 c12_216 mf210 (Nat.le_of_ble_eq_true rfl) rfl rfl (Nat.le_of_ble_eq_true rfl) (Nat.le_of_ble_eq_true rfl) ob_46
theorem E247_9 {d sl : Nat} {p : Nat → Nat} {I : Nat → Nat → Int32} {J : Nat → Nat → Int64} (l1 : Int32) (s0 : Int32)  : ev d 247 9 [.ref 46, .int l1, .retAddr 0] [.int s0] (S sl p I J) = some (some (.int s0), (S sl p I J)) := by
  exact r_ret (dk D247 5 rfl) rt247
theorem E247_14 {d sl : Nat} {p : Nat → Nat} {I : Nat → Nat → Int32} {J : Nat → Nat → Int64} (l1 : Int32)  : ev (d + 1) 247 14 [.ref 46, .int l1, .retAddr 0] [] (S sl p I J) = evK (d + 1) 247 20 [.ref 46, .int l1, .retAddr 0] [] (den d 245 [.ref 46, .int (-1), .int l1] (S sl p I J)) := by
  refine (r_aln (dk D247 8 rfl) rfl).trans ?_
  refine (r_ic (dk D247 9 rfl) cim1).trans ?_
  refine (r_iln (dk D247 10 rfl) rfl).trans ?_
  exact r_cv (dk D247 11 rfl) ow247 c12_360 mf245 (Nat.le_of_ble_eq_true rfl) rfl rfl (Nat.le_of_ble_eq_true rfl) (Nat.le_of_ble_eq_true rfl) ob_46
theorem E247_20 {d sl : Nat} {p : Nat → Nat} {I : Nat → Nat → Int32} {J : Nat → Nat → Int64} (l1 : Int32) (s0 : Int32)  : ev (d + 1) 247 20 [.ref 46, .int l1, .retAddr 0] [.int s0] (S sl p I J) = (if s0 = (-1) then evK (d + 1) 247 31 [.ref 46, .int l1, .int s0] [] (den d 178 [.ref 46, .int 5] (S sl p I J)) else evK (d + 1) 247 39 [.ref 46, .int l1, .int s0] [] (den d 179 [.ref 46, .int s0] (S sl p I J))) := by
  refine (r_isn (L' := [.ref 46, .int l1, .int s0]) (dk D247 12 rfl) (Nat.le_of_ble_eq_true rfl) rfl).trans ?_
  refine (r_iln (dk D247 13 rfl) rfl).trans ?_
  refine (r_ic (dk D247 14 rfl) cim1).trans ?_
  refine (r_ne (dk D247 15 rfl) rfl).trans (ite2 ?_ ?_)
  · refine (r_aln (dk D247 16 rfl) rfl).trans ?_
    refine (r_ic (dk D247 17 rfl) ci5).trans ?_
    exact r_cv (dk D247 18 rfl) ow247 c12_183 mf178 (Nat.le_of_ble_eq_true rfl) rfl rfl (Nat.le_of_ble_eq_true rfl) (Nat.le_of_ble_eq_true rfl) ob_46
  · refine (r_aln (dk D247 20 rfl) rfl).trans ?_
    refine (r_iln (dk D247 21 rfl) rfl).trans ?_
    exact r_cv (dk D247 22 rfl) ow247 c12_193 mf179 (Nat.le_of_ble_eq_true rfl) rfl rfl (Nat.le_of_ble_eq_true rfl) (Nat.le_of_ble_eq_true rfl) ob_46
theorem E247_31 {d sl : Nat} {p : Nat → Nat} {I : Nat → Nat → Int32} {J : Nat → Nat → Int64} (l1 : Int32) (l2 : Int32) (s0 : Int32)  : ev d 247 31 [.ref 46, .int l1, .int l2] [.int s0] (S sl p I J) = some (some (.int s0), (S sl p I J)) := by
  refine (r_goto (L' := [.ref 46, .int l1, .int l2]) (dk D247 19 rfl) rfl nd247_39 rfl).trans ?_
  exact r_ret (dk D247 23 rfl) rt247
theorem E247_39 {d sl : Nat} {p : Nat → Nat} {I : Nat → Nat → Int32} {J : Nat → Nat → Int64} (l1 : Int32) (l2 : Int32) (s0 : Int32)  : ev d 247 39 [.ref 46, .int l1, .int l2] [.int s0] (S sl p I J) = some (some (.int s0), (S sl p I J)) := by
  exact r_ret (dk D247 23 rfl) rt247
set_option maxRecDepth 20000 in
theorem D248 : dOK 248 [(0, .aload_n 0, 1), (1, .getfield 80, 3), (4, .iload_n 1, 1), (5, .iaload, 1), (6, .i2l, 1), (7, .aload_n 0, 1), (8, .getfield 83, 3), (11, .iload_n 1, 1), (12, .iaload, 1), (13, .i2l, 1), (14, .aload_n 0, 1), (15, .getfield 86, 3), (18, .iload_n 1, 1), (19, .iaload, 1), (20, .i2l, 1), (21, .aload_n 0, 1), (22, .getfield 80, 3), (25, .iload_n 2, 1), (26, .iaload, 1), (27, .i2l, 1), (28, .aload_n 0, 1), (29, .getfield 83, 3), (32, .iload_n 2, 1), (33, .iaload, 1), (34, .i2l, 1), (35, .aload_n 0, 1), (36, .getfield 86, 3), (39, .iload_n 2, 1), (40, .iaload, 1), (41, .i2l, 1), (42, .invokestatic 136, 3), (45, .aload_n 0, 1), (46, .iload_n 1, 1), (47, .invokevirtual 312, 3), (50, .aload_n 0, 1), (51, .iload_n 2, 1), (52, .invokevirtual 312, 3), (55, .lmul, 1), (56, .invokestatic 158, 3), (59, .ireturn, 1)] = true := by decide +kernel
theorem E248_0 {d sl : Nat} {p : Nat → Nat} {I : Nat → Nat → Int32} {J : Nat → Nat → Int64} (a1 : Int32) (a2 : Int32)  : den (d + 1) 248 [.ref 46, .int a1, .int a2] (S sl p I J) = ck (ixb 30 a1) (ck (ixb 30 a1) (ck (ixb 30 a1) (ck (ixb 30 a2) (ck (ixb 30 a2) (ck (ixb 30 a2) (evK (d + 1) 248 45 [.ref 46, .int a1, .int a2] [] (den d 188 [.long (Int32.toInt64 (I 64 (Int32.toNatClampNeg a1))), .long (Int32.toInt64 (I 65 (Int32.toNatClampNeg a1))), .long (Int32.toInt64 (I 66 (Int32.toNatClampNeg a1))), .long (Int32.toInt64 (I 64 (Int32.toNatClampNeg a2))), .long (Int32.toInt64 (I 65 (Int32.toNatClampNeg a2))), .long (Int32.toInt64 (I 66 (Int32.toNatClampNeg a2)))] (S sl p I J)))))))) := by
  refine (show den (d + 1) 248 [.ref 46, .int a1, .int a2] (S sl p I J) = ev (d + 1) 248 0 [.ref 46, .int a1, .int a2] [] (S sl p I J) from rfl).trans ?_
  refine (r_aln (dk D248 0 rfl) rfl).trans ?_
  refine (r_getR (dk D248 1 rfl) ow248 q12_80 ob_46 rfl).trans ?_
  refine (r_iln (dk D248 2 rfl) rfl).trans ?_
  refine (r_ild (dk D248 3 rfl) ar_64).trans (ck3 fun g1 => ?_)
  refine (r_i2l (dk D248 4 rfl)).trans ?_
  refine (r_aln (dk D248 5 rfl) rfl).trans ?_
  refine (r_getR (dk D248 6 rfl) ow248 q12_83 ob_46 rfl).trans ?_
  refine (r_iln (dk D248 7 rfl) rfl).trans ?_
  refine (r_ild (dk D248 8 rfl) ar_65).trans (ck3 fun g2 => ?_)
  refine (r_i2l (dk D248 9 rfl)).trans ?_
  refine (r_aln (dk D248 10 rfl) rfl).trans ?_
  refine (r_getR (dk D248 11 rfl) ow248 q12_86 ob_46 rfl).trans ?_
  refine (r_iln (dk D248 12 rfl) rfl).trans ?_
  refine (r_ild (dk D248 13 rfl) ar_66).trans (ck3 fun g3 => ?_)
  refine (r_i2l (dk D248 14 rfl)).trans ?_
  refine (r_aln (dk D248 15 rfl) rfl).trans ?_
  refine (r_getR (dk D248 16 rfl) ow248 q12_80 ob_46 rfl).trans ?_
  refine (r_iln (dk D248 17 rfl) rfl).trans ?_
  refine (r_ild (dk D248 18 rfl) ar_64).trans (ck3 fun g4 => ?_)
  refine (r_i2l (dk D248 19 rfl)).trans ?_
  refine (r_aln (dk D248 20 rfl) rfl).trans ?_
  refine (r_getR (dk D248 21 rfl) ow248 q12_83 ob_46 rfl).trans ?_
  refine (r_iln (dk D248 22 rfl) rfl).trans ?_
  refine (r_ild (dk D248 23 rfl) ar_65).trans (ck3 fun g5 => ?_)
  refine (r_i2l (dk D248 24 rfl)).trans ?_
  refine (r_aln (dk D248 25 rfl) rfl).trans ?_
  refine (r_getR (dk D248 26 rfl) ow248 q12_86 ob_46 rfl).trans ?_
  refine (r_iln (dk D248 27 rfl) rfl).trans ?_
  refine (r_ild (dk D248 28 rfl) ar_66).trans (ck3 fun g6 => ?_)
  refine (r_i2l (dk D248 29 rfl)).trans ?_
  exact r_cs (dk D248 30 rfl) ow248 pn12_136 c12_136 mf188 (Nat.le_of_ble_eq_true rfl) rfl rfl (Nat.le_of_ble_eq_true rfl) (Nat.le_of_ble_eq_true rfl)
theorem E248_45 {d sl : Nat} {p : Nat → Nat} {I : Nat → Nat → Int32} {J : Nat → Nat → Int64} (l1 : Int32) (l2 : Int32) (s0 : Int64)  : ev (d + 1) 248 45 [.ref 46, .int l1, .int l2] [.long s0] (S sl p I J) = evK (d + 1) 248 50 [.ref 46, .int l1, .int l2] [.long s0] (den d 229 [.ref 46, .int l1] (S sl p I J)) := by
  refine (r_aln (dk D248 31 rfl) rfl).trans ?_
  refine (r_iln (dk D248 32 rfl) rfl).trans ?_
  exact r_cv (dk D248 33 rfl) ow248 c12_312 mf229 (Nat.le_of_ble_eq_true rfl) rfl rfl (Nat.le_of_ble_eq_true rfl) (Nat.le_of_ble_eq_true rfl) ob_46
theorem E248_50 {d sl : Nat} {p : Nat → Nat} {I : Nat → Nat → Int32} {J : Nat → Nat → Int64} (l1 : Int32) (l2 : Int32) (s0 : Int64) (s1 : Int64)  : ev (d + 1) 248 50 [.ref 46, .int l1, .int l2] [.long s0, .long s1] (S sl p I J) = evK (d + 1) 248 55 [.ref 46, .int l1, .int l2] [.long s0, .long s1] (den d 229 [.ref 46, .int l2] (S sl p I J)) := by
  refine (r_aln (dk D248 34 rfl) rfl).trans ?_
  refine (r_iln (dk D248 35 rfl) rfl).trans ?_
  exact r_cv (dk D248 36 rfl) ow248 c12_312 mf229 (Nat.le_of_ble_eq_true rfl) rfl rfl (Nat.le_of_ble_eq_true rfl) (Nat.le_of_ble_eq_true rfl) ob_46
theorem E248_55 {d sl : Nat} {p : Nat → Nat} {I : Nat → Nat → Int32} {J : Nat → Nat → Int64} (l1 : Int32) (l2 : Int32) (s0 : Int64) (s1 : Int64) (s2 : Int64)  : ev (d + 1) 248 55 [.ref 46, .int l1, .int l2] [.long s0, .long s1, .long s2] (S sl p I J) = evK (d + 1) 248 59 [.ref 46, .int l1, .int l2] [] (den d 191 [.long s2, .long (s1 * s0)] (S sl p I J)) := by
  refine (r_lmul (dk D248 37 rfl)).trans ?_
  exact r_cs (dk D248 38 rfl) ow248 pn12_158 c12_158 mf191 (Nat.le_of_ble_eq_true rfl) rfl rfl (Nat.le_of_ble_eq_true rfl) (Nat.le_of_ble_eq_true rfl)
theorem E248_59 {d sl : Nat} {p : Nat → Nat} {I : Nat → Nat → Int32} {J : Nat → Nat → Int64} (l1 : Int32) (l2 : Int32) (s0 : Int32)  : ev d 248 59 [.ref 46, .int l1, .int l2] [.int s0] (S sl p I J) = some (some (.int s0), (S sl p I J)) := by
  exact r_ret (dk D248 39 rfl) rt248
set_option maxRecDepth 20000 in
theorem D249 : dOK 249 [(0, .aload_n 0, 1), (1, .invokevirtual 339, 3), (4, .aload_n 0, 1), (5, .iload_n 1, 1), (6, .iload_n 2, 1), (7, .invokevirtual 363, 3), (10, .ifCond .eq 16, 3), (13, .aload_n 0, 1), (14, .aload_n 0, 1), (15, .iload_n 1, 1), (16, .iload_n 2, 1), (17, .invokevirtual 366, 3), (20, .invokevirtual 193, 3), (23, .goto 8, 3), (26, .aload_n 0, 1), (27, .iconst 2, 1), (28, .invokevirtual 183, 3), (31, .ireturn, 1)] = true := by decide +kernel
theorem E249_0 {d sl : Nat} {p : Nat → Nat} {I : Nat → Nat → Int32} {J : Nat → Nat → Int64} (a1 : Int32) (a2 : Int32)  : den (d + 1) 249 [.ref 46, .int a1, .int a2] (S sl p I J) = evK (d + 1) 249 4 [.ref 46, .int a1, .int a2] [] (den d 221 [.ref 46] (S sl p I J)) := by
  refine (show den (d + 1) 249 [.ref 46, .int a1, .int a2] (S sl p I J) = ev (d + 1) 249 0 [.ref 46, .int a1, .int a2] [] (S sl p I J) from rfl).trans ?_
  refine (r_aln (dk D249 0 rfl) rfl).trans ?_
  exact r_cv (dk D249 1 rfl) ow249 c12_339 mf221 (Nat.le_of_ble_eq_true rfl) rfl rfl (Nat.le_of_ble_eq_true rfl) (Nat.le_of_ble_eq_true rfl) ob_46
theorem E249_4 {d sl : Nat} {p : Nat → Nat} {I : Nat → Nat → Int32} {J : Nat → Nat → Int64} (l1 : Int32) (l2 : Int32)  : ev (d + 1) 249 4 [.ref 46, .int l1, .int l2] [] (S sl p I J) = evK (d + 1) 249 10 [.ref 46, .int l1, .int l2] [] (den d 236 [.ref 46, .int l1, .int l2] (S sl p I J)) := by
  refine (r_aln (dk D249 2 rfl) rfl).trans ?_
  refine (r_iln (dk D249 3 rfl) rfl).trans ?_
  refine (r_iln (dk D249 4 rfl) rfl).trans ?_
  exact r_cv (dk D249 5 rfl) ow249 c12_363 mf236 (Nat.le_of_ble_eq_true rfl) rfl rfl (Nat.le_of_ble_eq_true rfl) (Nat.le_of_ble_eq_true rfl) ob_46
theorem E249_10 {d sl : Nat} {p : Nat → Nat} {I : Nat → Nat → Int32} {J : Nat → Nat → Int64} (l1 : Int32) (l2 : Int32) (s0 : Int32)  : ev (d + 1) 249 10 [.ref 46, .int l1, .int l2] [.int s0] (S sl p I J) = (if s0 = 0 then evK (d + 1) 249 31 [.ref 46, .int l1, .int l2] [] (den d 178 [.ref 46, .int 2] (S sl p I J)) else evK (d + 1) 249 20 [.ref 46, .int l1, .int l2] [.ref 46] (den d 248 [.ref 46, .int l1, .int l2] (S sl p I J))) := by
  refine (r_eq0 (dk D249 6 rfl) rfl).trans (ite2 ?_ ?_)
  · refine (r_aln (dk D249 14 rfl) rfl).trans ?_
    refine (r_ic (dk D249 15 rfl) ci2).trans ?_
    exact r_cv (dk D249 16 rfl) ow249 c12_183 mf178 (Nat.le_of_ble_eq_true rfl) rfl rfl (Nat.le_of_ble_eq_true rfl) (Nat.le_of_ble_eq_true rfl) ob_46
  · refine (r_aln (dk D249 7 rfl) rfl).trans ?_
    refine (r_aln (dk D249 8 rfl) rfl).trans ?_
    refine (r_iln (dk D249 9 rfl) rfl).trans ?_
    refine (r_iln (dk D249 10 rfl) rfl).trans ?_
    exact r_cv (dk D249 11 rfl) ow249 c12_366 mf248 (Nat.le_of_ble_eq_true rfl) rfl rfl (Nat.le_of_ble_eq_true rfl) (Nat.le_of_ble_eq_true rfl) ob_46
theorem E249_20 {d sl : Nat} {p : Nat → Nat} {I : Nat → Nat → Int32} {J : Nat → Nat → Int64} (l1 : Int32) (l2 : Int32) (s0 : Int32)  : ev (d + 1) 249 20 [.ref 46, .int l1, .int l2] [.int s0, .ref 46] (S sl p I J) = evK (d + 1) 249 23 [.ref 46, .int l1, .int l2] [] (den d 179 [.ref 46, .int s0] (S sl p I J)) := by
  exact r_cv (dk D249 12 rfl) ow249 c12_193 mf179 (Nat.le_of_ble_eq_true rfl) rfl rfl (Nat.le_of_ble_eq_true rfl) (Nat.le_of_ble_eq_true rfl) ob_46
theorem E249_23 {d sl : Nat} {p : Nat → Nat} {I : Nat → Nat → Int32} {J : Nat → Nat → Int64} (l1 : Int32) (l2 : Int32) (s0 : Int32)  : ev d 249 23 [.ref 46, .int l1, .int l2] [.int s0] (S sl p I J) = some (some (.int s0), (S sl p I J)) := by
  refine (r_goto (L' := [.ref 46, .int l1, .int l2]) (dk D249 13 rfl) rfl nd249_31 rfl).trans ?_
  exact r_ret (dk D249 17 rfl) rt249
theorem E249_31 {d sl : Nat} {p : Nat → Nat} {I : Nat → Nat → Int32} {J : Nat → Nat → Int64} (l1 : Int32) (l2 : Int32) (s0 : Int32)  : ev d 249 31 [.ref 46, .int l1, .int l2] [.int s0] (S sl p I J) = some (some (.int s0), (S sl p I J)) := by
  exact r_ret (dk D249 17 rfl) rt249
set_option maxRecDepth 20000 in
theorem D250 : dOK 250 [(0, .aload_n 0, 1), (1, .iload_n 1, 1), (2, .invokevirtual 210, 3), (5, .ifCond .eq 11, 3), (8, .aload_n 0, 1), (9, .iload_n 2, 1), (10, .invokevirtual 210, 3), (13, .ifCond .ne 9, 3), (16, .aload_n 0, 1), (17, .iconst 2, 1), (18, .invokevirtual 183, 3), (21, .ireturn, 1), (22, .iload_n 1, 1), (23, .iload_n 2, 1), (24, .if_icmp .ne 9, 3), (27, .aload_n 0, 1), (28, .iconst 0, 1), (29, .invokevirtual 193, 3), (32, .ireturn, 1), (33, .iconst 0, 1), (34, .istore_n 3, 1), (35, .aload_n 0, 1), (36, .iload_n 3, 1), (37, .iconst (-1), 1), (38, .invokevirtual 238, 3), (41, .aload_n 0, 1), (42, .getfield 68, 3), (45, .iload_n 1, 1), (46, .iaload, 1), (47, .aload_n 0, 1), (48, .getfield 68, 3), (51, .iload_n 2, 1), (52, .iaload, 1), (53, .if_icmp .eq 15, 3), (56, .iinc 3 1, 3), (59, .aload_n 0, 1), (60, .iload_n 3, 1), (61, .iconst (-1), 1), (62, .invokevirtual 238, 3), (65, .goto (-24), 3), (68, .aload_n 0, 1), (69, .iload_n 3, 1), (70, .invokevirtual 193, 3), (73, .ireturn, 1)] = true := by decide +kernel
theorem E250_0 {d sl : Nat} {p : Nat → Nat} {I : Nat → Nat → Int32} {J : Nat → Nat → Int64} (a1 : Int32) (a2 : Int32)  : den (d + 1) 250 [.ref 46, .int a1, .int a2] (S sl p I J) = evK (d + 1) 250 5 [.ref 46, .int a1, .int a2, .retAddr 0] [] (den d 201 [.ref 46, .int a1] (S sl p I J)) := by
  refine (show den (d + 1) 250 [.ref 46, .int a1, .int a2] (S sl p I J) = ev (d + 1) 250 0 [.ref 46, .int a1, .int a2, .retAddr 0] [] (S sl p I J) from rfl).trans ?_
  refine (r_aln (dk D250 0 rfl) rfl).trans ?_
  refine (r_iln (dk D250 1 rfl) rfl).trans ?_
  exact r_cv (dk D250 2 rfl) ow250 c12_210 mf201 (Nat.le_of_ble_eq_true rfl) rfl rfl (Nat.le_of_ble_eq_true rfl) (Nat.le_of_ble_eq_true rfl) ob_46
theorem E250_5 {d sl : Nat} {p : Nat → Nat} {I : Nat → Nat → Int32} {J : Nat → Nat → Int64} (l1 : Int32) (l2 : Int32) (s0 : Int32)  : ev (d + 1) 250 5 [.ref 46, .int l1, .int l2, .retAddr 0] [.int s0] (S sl p I J) = (if s0 = 0 then ev (d + 1) 250 16 [.ref 46, .int l1, .int l2, .retAddr 0] [] (S sl p I J) else evK (d + 1) 250 13 [.ref 46, .int l1, .int l2, .retAddr 0] [] (den d 201 [.ref 46, .int l2] (S sl p I J))) := by
  refine (r_eq0 (dk D250 3 rfl) rfl).trans (ite2 ?_ ?_)
  · exact rfl
  · refine (r_aln (dk D250 4 rfl) rfl).trans ?_
    refine (r_iln (dk D250 5 rfl) rfl).trans ?_
    exact r_cv (dk D250 6 rfl) ow250 c12_210 mf201 (Nat.le_of_ble_eq_true rfl) rfl rfl (Nat.le_of_ble_eq_true rfl) (Nat.le_of_ble_eq_true rfl) ob_46
theorem E250_13 {d sl : Nat} {p : Nat → Nat} {I : Nat → Nat → Int32} {J : Nat → Nat → Int64} (l1 : Int32) (l2 : Int32) (s0 : Int32)  : ev (d + 1) 250 13 [.ref 46, .int l1, .int l2, .retAddr 0] [.int s0] (S sl p I J) = (if s0 = 0 then ev (d + 1) 250 16 [.ref 46, .int l1, .int l2, .retAddr 0] [] (S sl p I J) else (if l1 = l2 then evK (d + 1) 250 32 [.ref 46, .int l1, .int l2, .retAddr 0] [] (den d 179 [.ref 46, .int 0] (S sl p I J)) else evK (d + 1) 250 41 [.ref 46, .int l1, .int l2, .int 0] [] (den d 208 [.ref 46, .int 0, .int (-1)] (S sl p I J)))) := by
  refine (r_ne0 (dk D250 7 rfl) rfl).trans (ite2 ?_ ?_)
  · exact rfl
  · refine (r_iln (dk D250 12 rfl) rfl).trans ?_
    refine (r_iln (dk D250 13 rfl) rfl).trans ?_
    refine (r_ne (dk D250 14 rfl) rfl).trans (ite2 ?_ ?_)
    · refine (r_aln (dk D250 15 rfl) rfl).trans ?_
      refine (r_ic (dk D250 16 rfl) ci0).trans ?_
      exact r_cv (dk D250 17 rfl) ow250 c12_193 mf179 (Nat.le_of_ble_eq_true rfl) rfl rfl (Nat.le_of_ble_eq_true rfl) (Nat.le_of_ble_eq_true rfl) ob_46
    · refine (r_ic (dk D250 19 rfl) ci0).trans ?_
      refine (r_isn (L' := [.ref 46, .int l1, .int l2, .int 0]) (dk D250 20 rfl) (Nat.le_of_ble_eq_true rfl) rfl).trans ?_
      refine (r_aln (dk D250 21 rfl) rfl).trans ?_
      refine (r_iln (dk D250 22 rfl) rfl).trans ?_
      refine (r_ic (dk D250 23 rfl) cim1).trans ?_
      exact r_cv (dk D250 24 rfl) ow250 c12_238 mf208 (Nat.le_of_ble_eq_true rfl) rfl rfl (Nat.le_of_ble_eq_true rfl) (Nat.le_of_ble_eq_true rfl) ob_46
theorem E250_16 {d sl : Nat} {p : Nat → Nat} {I : Nat → Nat → Int32} {J : Nat → Nat → Int64} (l1 : Int32) (l2 : Int32)  : ev (d + 1) 250 16 [.ref 46, .int l1, .int l2, .retAddr 0] [] (S sl p I J) = evK (d + 1) 250 21 [.ref 46, .int l1, .int l2, .retAddr 0] [] (den d 178 [.ref 46, .int 2] (S sl p I J)) := by
  refine (r_aln (dk D250 8 rfl) rfl).trans ?_
  refine (r_ic (dk D250 9 rfl) ci2).trans ?_
  exact r_cv (dk D250 10 rfl) ow250 c12_183 mf178 (Nat.le_of_ble_eq_true rfl) rfl rfl (Nat.le_of_ble_eq_true rfl) (Nat.le_of_ble_eq_true rfl) ob_46
theorem E250_21 {d sl : Nat} {p : Nat → Nat} {I : Nat → Nat → Int32} {J : Nat → Nat → Int64} (l1 : Int32) (l2 : Int32) (s0 : Int32)  : ev d 250 21 [.ref 46, .int l1, .int l2, .retAddr 0] [.int s0] (S sl p I J) = some (some (.int s0), (S sl p I J)) := by
  exact r_ret (dk D250 11 rfl) rt250
theorem E250_32 {d sl : Nat} {p : Nat → Nat} {I : Nat → Nat → Int32} {J : Nat → Nat → Int64} (l1 : Int32) (l2 : Int32) (s0 : Int32)  : ev d 250 32 [.ref 46, .int l1, .int l2, .retAddr 0] [.int s0] (S sl p I J) = some (some (.int s0), (S sl p I J)) := by
  exact r_ret (dk D250 18 rfl) rt250
theorem E250_41 {d sl : Nat} {p : Nat → Nat} {I : Nat → Nat → Int32} {J : Nat → Nat → Int64} (l1 : Int32) (l2 : Int32) (l3 : Int32)  : ev (d + 1) 250 41 [.ref 46, .int l1, .int l2, .int l3] [] (S sl p I J) = ck (ixb 60 l1) (ck (ixb 60 l2) ((if (I 60 (Int32.toNatClampNeg l1)) = (I 60 (Int32.toNatClampNeg l2)) then evK (d + 1) 250 73 [.ref 46, .int l1, .int l2, .int l3] [] (den d 179 [.ref 46, .int l3] (S sl p I J)) else evK (d + 1) 250 65 [.ref 46, .int l1, .int l2, .int (l3 + 1)] [] (den d 208 [.ref 46, .int (l3 + 1), .int (-1)] (S sl p I J))))) := by
  refine (r_aln (dk D250 25 rfl) rfl).trans ?_
  refine (r_getR (dk D250 26 rfl) ow250 q12_68 ob_46 rfl).trans ?_
  refine (r_iln (dk D250 27 rfl) rfl).trans ?_
  refine (r_ild (dk D250 28 rfl) ar_60).trans (ck3 fun g1 => ?_)
  refine (r_aln (dk D250 29 rfl) rfl).trans ?_
  refine (r_getR (dk D250 30 rfl) ow250 q12_68 ob_46 rfl).trans ?_
  refine (r_iln (dk D250 31 rfl) rfl).trans ?_
  refine (r_ild (dk D250 32 rfl) ar_60).trans (ck3 fun g2 => ?_)
  refine (r_eq (dk D250 33 rfl) rfl).trans (ite2 ?_ ?_)
  · refine (r_aln (dk D250 40 rfl) rfl).trans ?_
    refine (r_iln (dk D250 41 rfl) rfl).trans ?_
    exact r_cv (dk D250 42 rfl) ow250 c12_193 mf179 (Nat.le_of_ble_eq_true rfl) rfl rfl (Nat.le_of_ble_eq_true rfl) (Nat.le_of_ble_eq_true rfl) ob_46
  · refine (r_inc (L' := [.ref 46, .int l1, .int l2, .int (l3 + 1)]) (dk D250 34 rfl) rfl rfl ci1 (Nat.le_of_ble_eq_true rfl) rfl).trans ?_
    refine (r_aln (dk D250 35 rfl) rfl).trans ?_
    refine (r_iln (dk D250 36 rfl) rfl).trans ?_
    refine (r_ic (dk D250 37 rfl) cim1).trans ?_
    exact r_cv (dk D250 38 rfl) ow250 c12_238 mf208 (Nat.le_of_ble_eq_true rfl) rfl rfl (Nat.le_of_ble_eq_true rfl) (Nat.le_of_ble_eq_true rfl) ob_46
theorem E250_65 {d sl : Nat} {p : Nat → Nat} {I : Nat → Nat → Int32} {J : Nat → Nat → Int64} (l1 : Int32) (l2 : Int32) (l3 : Int32)  : ev d 250 65 [.ref 46, .int l1, .int l2, .int l3] [] (S sl p I J) = ev d 250 41 [.ref 46, .int l1, .int l2, .int l3] [] (S sl p I J) := by
  refine (r_goto (L' := [.ref 46, .int l1, .int l2, .int l3]) (dk D250 39 rfl) rfl nd250_41 rfl).trans ?_
  exact rfl
theorem E250_73 {d sl : Nat} {p : Nat → Nat} {I : Nat → Nat → Int32} {J : Nat → Nat → Int64} (l1 : Int32) (l2 : Int32) (l3 : Int32) (s0 : Int32)  : ev d 250 73 [.ref 46, .int l1, .int l2, .int l3] [.int s0] (S sl p I J) = some (some (.int s0), (S sl p I J)) := by
  exact r_ret (dk D250 43 rfl) rt250
set_option maxRecDepth 20000 in
theorem D251 : dOK 251 [(0, .iload_n 3, 1), (1, .iconst 0, 1), (2, .iconst 1, 1), (3, .invokestatic 178, 3), (6, .ifCond .ne 9, 3), (9, .aload_n 0, 1), (10, .iconst 1, 1), (11, .invokevirtual 183, 3), (14, .ireturn, 1), (15, .aload_n 0, 1), (16, .invokevirtual 339, 3), (19, .aload_n 0, 1), (20, .iload_n 1, 1), (21, .iload_n 2, 1), (22, .invokevirtual 363, 3), (25, .ifCond .ne 9, 3), (28, .aload_n 0, 1), (29, .iconst 2, 1), (30, .invokevirtual 183, 3), (33, .ireturn, 1), (34, .iload_n 3, 1), (35, .ifCond .ne 33, 3), (38, .aload_n 0, 1), (39, .aload_n 0, 1), (40, .iload_n 1, 1), (41, .iload_n 2, 1), (42, .invokevirtual 366, 3), (45, .aload_n 0, 1), (46, .iload_n 1, 1), (47, .invokevirtual 354, 3), (50, .aload_n 0, 1), (51, .iload_n 2, 1), (52, .invokevirtual 354, 3), (55, .iadd, 1), (56, .if_icmp .gt 7, 3), (59, .iconst 1, 1), (60, .goto 4, 3), (63, .iconst 0, 1), (64, .invokevirtual 193, 3), (67, .ireturn, 1), (68, .aload_n 0, 1), (69, .iload_n 2, 1), (70, .invokevirtual 354, 3), (73, .istore 4, 2), (75, .iconst 0, 1), (76, .istore 5, 2), (78, .iconst 0, 1), (79, .istore 6, 2), (81, .iload 6, 2), (83, .aload_n 0, 1), (84, .getfield 196, 3), (87, .if_icmp .ge 42, 3), (90, .iload 5, 2), (92, .aload_n 0, 1), (93, .getfield 71, 3), (96, .iload 6, 2), (98, .iaload, 1), (99, .iload_n 1, 1), (100, .if_icmp .ne 19, 3), (103, .aload_n 0, 1), (104, .iload 6, 2), (106, .iload_n 2, 1), (107, .iload 4, 2), (109, .invokevirtual 321, 3), (112, .ifCond .eq 7, 3), (115, .iconst 1, 1), (116, .goto 4, 3), (119, .iconst 0, 1), (120, .iadd, 1), (121, .istore 5, 2), (123, .iinc 6 1, 3), (126, .goto (-45), 3), (129, .aload_n 0, 1), (130, .iload 5, 2), (132, .invokevirtual 193, 3), (135, .ireturn, 1)] = true := by decide +kernel
theorem E251_0 {d sl : Nat} {p : Nat → Nat} {I : Nat → Nat → Int32} {J : Nat → Nat → Int64} (a1 : Int32) (a2 : Int32) (a3 : Int32)  : den (d + 1) 251 [.ref 46, .int a1, .int a2, .int a3] (S sl p I J) = evK (d + 1) 251 6 [.ref 46, .int a1, .int a2, .int a3, .retAddr 0, .retAddr 0, .retAddr 0] [] (den d 181 [.int a3, .int 0, .int 1] (S sl p I J)) := by
  refine (show den (d + 1) 251 [.ref 46, .int a1, .int a2, .int a3] (S sl p I J) = ev (d + 1) 251 0 [.ref 46, .int a1, .int a2, .int a3, .retAddr 0, .retAddr 0, .retAddr 0] [] (S sl p I J) from rfl).trans ?_
  refine (r_iln (dk D251 0 rfl) rfl).trans ?_
  refine (r_ic (dk D251 1 rfl) ci0).trans ?_
  refine (r_ic (dk D251 2 rfl) ci1).trans ?_
  exact r_cs (dk D251 3 rfl) ow251 pn12_178 c12_178 mf181 (Nat.le_of_ble_eq_true rfl) rfl rfl (Nat.le_of_ble_eq_true rfl) (Nat.le_of_ble_eq_true rfl)
theorem E251_6 {d sl : Nat} {p : Nat → Nat} {I : Nat → Nat → Int32} {J : Nat → Nat → Int64} (l1 : Int32) (l2 : Int32) (l3 : Int32) (s0 : Int32)  : ev (d + 1) 251 6 [.ref 46, .int l1, .int l2, .int l3, .retAddr 0, .retAddr 0, .retAddr 0] [.int s0] (S sl p I J) = (if s0 = 0 then evK (d + 1) 251 14 [.ref 46, .int l1, .int l2, .int l3, .retAddr 0, .retAddr 0, .retAddr 0] [] (den d 178 [.ref 46, .int 1] (S sl p I J)) else evK (d + 1) 251 19 [.ref 46, .int l1, .int l2, .int l3, .retAddr 0, .retAddr 0, .retAddr 0] [] (den d 221 [.ref 46] (S sl p I J))) := by
  refine (r_ne0 (dk D251 4 rfl) rfl).trans (ite2 ?_ ?_)
  · refine (r_aln (dk D251 5 rfl) rfl).trans ?_
    refine (r_ic (dk D251 6 rfl) ci1).trans ?_
    exact r_cv (dk D251 7 rfl) ow251 c12_183 mf178 (Nat.le_of_ble_eq_true rfl) rfl rfl (Nat.le_of_ble_eq_true rfl) (Nat.le_of_ble_eq_true rfl) ob_46
  · refine (r_aln (dk D251 9 rfl) rfl).trans ?_
    exact r_cv (dk D251 10 rfl) ow251 c12_339 mf221 (Nat.le_of_ble_eq_true rfl) rfl rfl (Nat.le_of_ble_eq_true rfl) (Nat.le_of_ble_eq_true rfl) ob_46
theorem E251_14 {d sl : Nat} {p : Nat → Nat} {I : Nat → Nat → Int32} {J : Nat → Nat → Int64} (l1 : Int32) (l2 : Int32) (l3 : Int32) (s0 : Int32)  : ev d 251 14 [.ref 46, .int l1, .int l2, .int l3, .retAddr 0, .retAddr 0, .retAddr 0] [.int s0] (S sl p I J) = some (some (.int s0), (S sl p I J)) := by
  exact r_ret (dk D251 8 rfl) rt251
theorem E251_19 {d sl : Nat} {p : Nat → Nat} {I : Nat → Nat → Int32} {J : Nat → Nat → Int64} (l1 : Int32) (l2 : Int32) (l3 : Int32)  : ev (d + 1) 251 19 [.ref 46, .int l1, .int l2, .int l3, .retAddr 0, .retAddr 0, .retAddr 0] [] (S sl p I J) = evK (d + 1) 251 25 [.ref 46, .int l1, .int l2, .int l3, .retAddr 0, .retAddr 0, .retAddr 0] [] (den d 236 [.ref 46, .int l1, .int l2] (S sl p I J)) := by
  refine (r_aln (dk D251 11 rfl) rfl).trans ?_
  refine (r_iln (dk D251 12 rfl) rfl).trans ?_
  refine (r_iln (dk D251 13 rfl) rfl).trans ?_
  exact r_cv (dk D251 14 rfl) ow251 c12_363 mf236 (Nat.le_of_ble_eq_true rfl) rfl rfl (Nat.le_of_ble_eq_true rfl) (Nat.le_of_ble_eq_true rfl) ob_46
theorem E251_25 {d sl : Nat} {p : Nat → Nat} {I : Nat → Nat → Int32} {J : Nat → Nat → Int64} (l1 : Int32) (l2 : Int32) (l3 : Int32) (s0 : Int32)  : ev (d + 1) 251 25 [.ref 46, .int l1, .int l2, .int l3, .retAddr 0, .retAddr 0, .retAddr 0] [.int s0] (S sl p I J) = (if s0 = 0 then evK (d + 1) 251 33 [.ref 46, .int l1, .int l2, .int l3, .retAddr 0, .retAddr 0, .retAddr 0] [] (den d 178 [.ref 46, .int 2] (S sl p I J)) else (if l3 = 0 then evK (d + 1) 251 45 [.ref 46, .int l1, .int l2, .int l3, .retAddr 0, .retAddr 0, .retAddr 0] [.ref 46] (den d 248 [.ref 46, .int l1, .int l2] (S sl p I J)) else evK (d + 1) 251 73 [.ref 46, .int l1, .int l2, .int l3, .retAddr 0, .retAddr 0, .retAddr 0] [] (den d 233 [.ref 46, .int l2] (S sl p I J)))) := by
  refine (r_ne0 (dk D251 15 rfl) rfl).trans (ite2 ?_ ?_)
  · refine (r_aln (dk D251 16 rfl) rfl).trans ?_
    refine (r_ic (dk D251 17 rfl) ci2).trans ?_
    exact r_cv (dk D251 18 rfl) ow251 c12_183 mf178 (Nat.le_of_ble_eq_true rfl) rfl rfl (Nat.le_of_ble_eq_true rfl) (Nat.le_of_ble_eq_true rfl) ob_46
  · refine (r_iln (dk D251 20 rfl) rfl).trans ?_
    refine (r_ne0 (dk D251 21 rfl) rfl).trans (ite2 ?_ ?_)
    · refine (r_aln (dk D251 22 rfl) rfl).trans ?_
      refine (r_aln (dk D251 23 rfl) rfl).trans ?_
      refine (r_iln (dk D251 24 rfl) rfl).trans ?_
      refine (r_iln (dk D251 25 rfl) rfl).trans ?_
      exact r_cv (dk D251 26 rfl) ow251 c12_366 mf248 (Nat.le_of_ble_eq_true rfl) rfl rfl (Nat.le_of_ble_eq_true rfl) (Nat.le_of_ble_eq_true rfl) ob_46
    · refine (r_aln (dk D251 40 rfl) rfl).trans ?_
      refine (r_iln (dk D251 41 rfl) rfl).trans ?_
      exact r_cv (dk D251 42 rfl) ow251 c12_354 mf233 (Nat.le_of_ble_eq_true rfl) rfl rfl (Nat.le_of_ble_eq_true rfl) (Nat.le_of_ble_eq_true rfl) ob_46
theorem E251_33 {d sl : Nat} {p : Nat → Nat} {I : Nat → Nat → Int32} {J : Nat → Nat → Int64} (l1 : Int32) (l2 : Int32) (l3 : Int32) (s0 : Int32)  : ev d 251 33 [.ref 46, .int l1, .int l2, .int l3, .retAddr 0, .retAddr 0, .retAddr 0] [.int s0] (S sl p I J) = some (some (.int s0), (S sl p I J)) := by
  exact r_ret (dk D251 19 rfl) rt251
theorem E251_45 {d sl : Nat} {p : Nat → Nat} {I : Nat → Nat → Int32} {J : Nat → Nat → Int64} (l1 : Int32) (l2 : Int32) (l3 : Int32) (s0 : Int32)  : ev (d + 1) 251 45 [.ref 46, .int l1, .int l2, .int l3, .retAddr 0, .retAddr 0, .retAddr 0] [.int s0, .ref 46] (S sl p I J) = evK (d + 1) 251 50 [.ref 46, .int l1, .int l2, .int l3, .retAddr 0, .retAddr 0, .retAddr 0] [.int s0, .ref 46] (den d 233 [.ref 46, .int l1] (S sl p I J)) := by
  refine (r_aln (dk D251 27 rfl) rfl).trans ?_
  refine (r_iln (dk D251 28 rfl) rfl).trans ?_
  exact r_cv (dk D251 29 rfl) ow251 c12_354 mf233 (Nat.le_of_ble_eq_true rfl) rfl rfl (Nat.le_of_ble_eq_true rfl) (Nat.le_of_ble_eq_true rfl) ob_46
theorem E251_50 {d sl : Nat} {p : Nat → Nat} {I : Nat → Nat → Int32} {J : Nat → Nat → Int64} (l1 : Int32) (l2 : Int32) (l3 : Int32) (s0 : Int32) (s1 : Int32)  : ev (d + 1) 251 50 [.ref 46, .int l1, .int l2, .int l3, .retAddr 0, .retAddr 0, .retAddr 0] [.int s0, .int s1, .ref 46] (S sl p I J) = evK (d + 1) 251 55 [.ref 46, .int l1, .int l2, .int l3, .retAddr 0, .retAddr 0, .retAddr 0] [.int s0, .int s1, .ref 46] (den d 233 [.ref 46, .int l2] (S sl p I J)) := by
  refine (r_aln (dk D251 30 rfl) rfl).trans ?_
  refine (r_iln (dk D251 31 rfl) rfl).trans ?_
  exact r_cv (dk D251 32 rfl) ow251 c12_354 mf233 (Nat.le_of_ble_eq_true rfl) rfl rfl (Nat.le_of_ble_eq_true rfl) (Nat.le_of_ble_eq_true rfl) ob_46
theorem E251_55 {d sl : Nat} {p : Nat → Nat} {I : Nat → Nat → Int32} {J : Nat → Nat → Int64} (l1 : Int32) (l2 : Int32) (l3 : Int32) (s0 : Int32) (s1 : Int32) (s2 : Int32)  : ev d 251 55 [.ref 46, .int l1, .int l2, .int l3, .retAddr 0, .retAddr 0, .retAddr 0] [.int s0, .int s1, .int s2, .ref 46] (S sl p I J) = (if s2 ≤ (s1 + s0) then ev d 251 64 [.ref 46, .int l1, .int l2, .int l3, .retAddr 0, .retAddr 0, .retAddr 0] [.int 1, .ref 46] (S sl p I J) else ev d 251 64 [.ref 46, .int l1, .int l2, .int l3, .retAddr 0, .retAddr 0, .retAddr 0] [.int 0, .ref 46] (S sl p I J)) := by
  refine (r_iadd (dk D251 33 rfl)).trans ?_
  refine (r_gt (dk D251 34 rfl) rfl).trans (ite2 ?_ ?_)
  · refine (r_ic (dk D251 35 rfl) ci1).trans ?_
    refine (r_goto (L' := [.ref 46, .int l1, .int l2, .int l3, .retAddr 0, .retAddr 0, .retAddr 0]) (dk D251 36 rfl) rfl nd251_64 rfl).trans ?_
    exact rfl
  · refine (r_ic (dk D251 37 rfl) ci0).trans ?_
    exact rfl
theorem E251_64 {d sl : Nat} {p : Nat → Nat} {I : Nat → Nat → Int32} {J : Nat → Nat → Int64} (l1 : Int32) (l2 : Int32) (l3 : Int32) (s0 : Int32)  : ev (d + 1) 251 64 [.ref 46, .int l1, .int l2, .int l3, .retAddr 0, .retAddr 0, .retAddr 0] [.int s0, .ref 46] (S sl p I J) = evK (d + 1) 251 67 [.ref 46, .int l1, .int l2, .int l3, .retAddr 0, .retAddr 0, .retAddr 0] [] (den d 179 [.ref 46, .int s0] (S sl p I J)) := by
  exact r_cv (dk D251 38 rfl) ow251 c12_193 mf179 (Nat.le_of_ble_eq_true rfl) rfl rfl (Nat.le_of_ble_eq_true rfl) (Nat.le_of_ble_eq_true rfl) ob_46
theorem E251_67 {d sl : Nat} {p : Nat → Nat} {I : Nat → Nat → Int32} {J : Nat → Nat → Int64} (l1 : Int32) (l2 : Int32) (l3 : Int32) (s0 : Int32)  : ev d 251 67 [.ref 46, .int l1, .int l2, .int l3, .retAddr 0, .retAddr 0, .retAddr 0] [.int s0] (S sl p I J) = some (some (.int s0), (S sl p I J)) := by
  exact r_ret (dk D251 39 rfl) rt251
theorem E251_73 {d sl : Nat} {p : Nat → Nat} {I : Nat → Nat → Int32} {J : Nat → Nat → Int64} (l1 : Int32) (l2 : Int32) (l3 : Int32) (s0 : Int32)  : ev d 251 73 [.ref 46, .int l1, .int l2, .int l3, .retAddr 0, .retAddr 0, .retAddr 0] [.int s0] (S sl p I J) = ev d 251 81 [.ref 46, .int l1, .int l2, .int l3, .int s0, .int 0, .int 0] [] (S sl p I J) := by
  refine (r_is (L' := [.ref 46, .int l1, .int l2, .int l3, .int s0, .retAddr 0, .retAddr 0]) (dk D251 43 rfl) (Nat.le_of_ble_eq_true rfl) rfl).trans ?_
  refine (r_ic (dk D251 44 rfl) ci0).trans ?_
  refine (r_is (L' := [.ref 46, .int l1, .int l2, .int l3, .int s0, .int 0, .retAddr 0]) (dk D251 45 rfl) (Nat.le_of_ble_eq_true rfl) rfl).trans ?_
  refine (r_ic (dk D251 46 rfl) ci0).trans ?_
  refine (r_is (L' := [.ref 46, .int l1, .int l2, .int l3, .int s0, .int 0, .int 0]) (dk D251 47 rfl) (Nat.le_of_ble_eq_true rfl) rfl).trans ?_
  exact rfl
theorem E251_81 {d sl : Nat} {p : Nat → Nat} {I : Nat → Nat → Int32} {J : Nat → Nat → Int64} (l1 : Int32) (l2 : Int32) (l3 : Int32) (l4 : Int32) (l5 : Int32) (l6 : Int32)  : ev (d + 1) 251 81 [.ref 46, .int l1, .int l2, .int l3, .int l4, .int l5, .int l6] [] (S sl p I J) = (if l6 < (I 46 2) then ck (ixb 60 l6) ((if (I 61 (Int32.toNatClampNeg l6)) = l1 then evK (d + 1) 251 112 [.ref 46, .int l1, .int l2, .int l3, .int l4, .int l5, .int l6] [.int l5] (den d 232 [.ref 46, .int l6, .int l2, .int l4] (S sl p I J)) else ev (d + 1) 251 81 [.ref 46, .int l1, .int l2, .int l3, .int l4, .int (l5 + 0), .int (l6 + 1)] [] (S sl p I J))) else evK (d + 1) 251 135 [.ref 46, .int l1, .int l2, .int l3, .int l4, .int l5, .int l6] [] (den d 179 [.ref 46, .int l5] (S sl p I J))) := by
  refine (r_il (dk D251 48 rfl) rfl).trans ?_
  refine (r_aln (dk D251 49 rfl) rfl).trans ?_
  refine (r_getI (dk D251 50 rfl) ow251 q12_196 ob_46).trans ?_
  refine (r_ge (dk D251 51 rfl) rfl).trans (ite2 ?_ ?_)
  · refine (r_il (dk D251 52 rfl) rfl).trans ?_
    refine (r_aln (dk D251 53 rfl) rfl).trans ?_
    refine (r_getR (dk D251 54 rfl) ow251 q12_71 ob_46 rfl).trans ?_
    refine (r_il (dk D251 55 rfl) rfl).trans ?_
    refine (r_ild (dk D251 56 rfl) ar_61).trans (ck3 fun g1 => ?_)
    refine (r_iln (dk D251 57 rfl) rfl).trans ?_
    refine (r_ne (dk D251 58 rfl) rfl).trans (ite2 ?_ ?_)
    · refine (r_aln (dk D251 59 rfl) rfl).trans ?_
      refine (r_il (dk D251 60 rfl) rfl).trans ?_
      refine (r_iln (dk D251 61 rfl) rfl).trans ?_
      refine (r_il (dk D251 62 rfl) rfl).trans ?_
      exact r_cv (dk D251 63 rfl) ow251 c12_321 mf232 (Nat.le_of_ble_eq_true rfl) rfl rfl (Nat.le_of_ble_eq_true rfl) (Nat.le_of_ble_eq_true rfl) ob_46
    · refine (r_ic (dk D251 67 rfl) ci0).trans ?_
      refine (r_iadd (dk D251 68 rfl)).trans ?_
      refine (r_is (L' := [.ref 46, .int l1, .int l2, .int l3, .int l4, .int (l5 + 0), .int l6]) (dk D251 69 rfl) (Nat.le_of_ble_eq_true rfl) rfl).trans ?_
      refine (r_inc (L' := [.ref 46, .int l1, .int l2, .int l3, .int l4, .int (l5 + 0), .int (l6 + 1)]) (dk D251 70 rfl) rfl rfl ci1 (Nat.le_of_ble_eq_true rfl) rfl).trans ?_
      refine (r_goto (L' := [.ref 46, .int l1, .int l2, .int l3, .int l4, .int (l5 + 0), .int (l6 + 1)]) (dk D251 71 rfl) rfl nd251_81 rfl).trans ?_
      exact rfl
  · refine (r_aln (dk D251 72 rfl) rfl).trans ?_
    refine (r_il (dk D251 73 rfl) rfl).trans ?_
    exact r_cv (dk D251 74 rfl) ow251 c12_193 mf179 (Nat.le_of_ble_eq_true rfl) rfl rfl (Nat.le_of_ble_eq_true rfl) (Nat.le_of_ble_eq_true rfl) ob_46
theorem E251_112 {d sl : Nat} {p : Nat → Nat} {I : Nat → Nat → Int32} {J : Nat → Nat → Int64} (l1 : Int32) (l2 : Int32) (l3 : Int32) (l4 : Int32) (l5 : Int32) (l6 : Int32) (s0 : Int32) (s1 : Int32)  : ev d 251 112 [.ref 46, .int l1, .int l2, .int l3, .int l4, .int l5, .int l6] [.int s0, .int s1] (S sl p I J) = (if s0 = 0 then ev d 251 81 [.ref 46, .int l1, .int l2, .int l3, .int l4, .int (s1 + 0), .int (l6 + 1)] [] (S sl p I J) else ev d 251 81 [.ref 46, .int l1, .int l2, .int l3, .int l4, .int (s1 + 1), .int (l6 + 1)] [] (S sl p I J)) := by
  refine (r_eq0 (dk D251 64 rfl) rfl).trans (ite2 ?_ ?_)
  · refine (r_ic (dk D251 67 rfl) ci0).trans ?_
    refine (r_iadd (dk D251 68 rfl)).trans ?_
    refine (r_is (L' := [.ref 46, .int l1, .int l2, .int l3, .int l4, .int (s1 + 0), .int l6]) (dk D251 69 rfl) (Nat.le_of_ble_eq_true rfl) rfl).trans ?_
    refine (r_inc (L' := [.ref 46, .int l1, .int l2, .int l3, .int l4, .int (s1 + 0), .int (l6 + 1)]) (dk D251 70 rfl) rfl rfl ci1 (Nat.le_of_ble_eq_true rfl) rfl).trans ?_
    refine (r_goto (L' := [.ref 46, .int l1, .int l2, .int l3, .int l4, .int (s1 + 0), .int (l6 + 1)]) (dk D251 71 rfl) rfl nd251_81 rfl).trans ?_
    exact rfl
  · refine (r_ic (dk D251 65 rfl) ci1).trans ?_
    refine (r_goto (L' := [.ref 46, .int l1, .int l2, .int l3, .int l4, .int l5, .int l6]) (dk D251 66 rfl) rfl nd251_120 rfl).trans ?_
    refine (r_iadd (dk D251 68 rfl)).trans ?_
    refine (r_is (L' := [.ref 46, .int l1, .int l2, .int l3, .int l4, .int (s1 + 1), .int l6]) (dk D251 69 rfl) (Nat.le_of_ble_eq_true rfl) rfl).trans ?_
    refine (r_inc (L' := [.ref 46, .int l1, .int l2, .int l3, .int l4, .int (s1 + 1), .int (l6 + 1)]) (dk D251 70 rfl) rfl rfl ci1 (Nat.le_of_ble_eq_true rfl) rfl).trans ?_
    refine (r_goto (L' := [.ref 46, .int l1, .int l2, .int l3, .int l4, .int (s1 + 1), .int (l6 + 1)]) (dk D251 71 rfl) rfl nd251_81 rfl).trans ?_
    exact rfl
theorem E251_135 {d sl : Nat} {p : Nat → Nat} {I : Nat → Nat → Int32} {J : Nat → Nat → Int64} (l1 : Int32) (l2 : Int32) (l3 : Int32) (l4 : Int32) (l5 : Int32) (l6 : Int32) (s0 : Int32)  : ev d 251 135 [.ref 46, .int l1, .int l2, .int l3, .int l4, .int l5, .int l6] [.int s0] (S sl p I J) = some (some (.int s0), (S sl p I J)) := by
  exact r_ret (dk D251 75 rfl) rt251
set_option maxRecDepth 20000 in
theorem D252 : dOK 252 [(0, .aload_n 0, 1), (1, .invokevirtual 216, 3), (4, .bipush 17, 2), (6, .istore_n 1, 1), (7, .iconst 0, 1), (8, .istore_n 2, 1), (9, .iload_n 2, 1), (10, .aload_n 0, 1), (11, .getfield 244, 3), (14, .if_icmp .ge 74, 3), (17, .ldc 232, 2), (19, .istore_n 3, 1), (20, .iconst 0, 1), (21, .istore 4, 2), (23, .iload 4, 2), (25, .aload_n 0, 1), (26, .getfield 196, 3), (29, .if_icmp .ge 35, 3), (32, .aload_n 0, 1), (33, .getfield 71, 3), (36, .iload 4, 2), (38, .iaload, 1), (39, .iload_n 2, 1), (40, .if_icmp .ne 16, 3), (43, .iload_n 3, 1), (44, .aload_n 0, 1), (45, .iload 4, 2), (47, .invokevirtual 233, 3), (50, .invokestatic 236, 3), (53, .goto 4, 3), (56, .iload_n 3, 1), (57, .istore_n 3, 1), (58, .iinc 4 1, 3), (61, .goto (-38), 3), (64, .bipush 31, 2), (66, .iload_n 1, 1), (67, .imul, 1), (68, .iload_n 3, 1), (69, .iadd, 1), (70, .istore_n 1, 1), (71, .bipush 31, 2), (73, .iload_n 1, 1), (74, .imul, 1), (75, .aload_n 0, 1), (76, .iload_n 2, 1), (77, .invokevirtual 330, 3), (80, .iadd, 1), (81, .istore_n 1, 1), (82, .iinc 2 1, 3), (85, .goto (-76), 3), (88, .aload_n 0, 1), (89, .bipush 31, 2), (91, .iload_n 1, 1), (92, .imul, 1), (93, .aload_n 0, 1), (94, .iconst (-1), 1), (95, .invokevirtual 330, 3), (98, .iadd, 1), (99, .invokevirtual 193, 3), (102, .ireturn, 1)] = true := by decide +kernel
theorem E252_0 {d sl : Nat} {p : Nat → Nat} {I : Nat → Nat → Int32} {J : Nat → Nat → Int64}   : den (d + 1) 252 [.ref 46] (S sl p I J) = evK (d + 1) 252 4 [.ref 46, .retAddr 0, .retAddr 0, .retAddr 0, .retAddr 0] [] (den d 210 [.ref 46] (S sl p I J)) := by
  refine (show den (d + 1) 252 [.ref 46] (S sl p I J) = ev (d + 1) 252 0 [.ref 46, .retAddr 0, .retAddr 0, .retAddr 0, .retAddr 0] [] (S sl p I J) from rfl).trans ?_
  refine (r_aln (dk D252 0 rfl) rfl).trans ?_
  exact r_cv (dk D252 1 rfl) ow252 c12_216 mf210 (Nat.le_of_ble_eq_true rfl) rfl rfl (Nat.le_of_ble_eq_true rfl) (Nat.le_of_ble_eq_true rfl) ob_46
theorem E252_4 {d sl : Nat} {p : Nat → Nat} {I : Nat → Nat → Int32} {J : Nat → Nat → Int64}   : ev d 252 4 [.ref 46, .retAddr 0, .retAddr 0, .retAddr 0, .retAddr 0] [] (S sl p I J) = ev d 252 9 [.ref 46, .int 17, .int 0, .retAddr 0, .retAddr 0] [] (S sl p I J) := by
  refine (r_bp (dk D252 2 rfl) cb17).trans ?_
  refine (r_isn (L' := [.ref 46, .int 17, .retAddr 0, .retAddr 0, .retAddr 0]) (dk D252 3 rfl) (Nat.le_of_ble_eq_true rfl) rfl).trans ?_
  refine (r_ic (dk D252 4 rfl) ci0).trans ?_
  refine (r_isn (L' := [.ref 46, .int 17, .int 0, .retAddr 0, .retAddr 0]) (dk D252 5 rfl) (Nat.le_of_ble_eq_true rfl) rfl).trans ?_
  exact rfl
theorem E252_9 {d sl : Nat} {p : Nat → Nat} {I : Nat → Nat → Int32} {J : Nat → Nat → Int64} (l1 : Int32) (l2 : Int32)  : ev (d + 1) 252 9 [.ref 46, .int l1, .int l2, .retAddr 0, .retAddr 0] [] (S sl p I J) = (if l2 < (I 46 31) then ev (d + 1) 252 23 [.ref 46, .int l1, .int l2, .int 1000000, .int 0] [] (S sl p I J) else evK (d + 1) 252 98 [.ref 46, .int l1, .int l2, .retAddr 0, .retAddr 0] [.int (31 * l1), .ref 46] (den d 211 [.ref 46, .int (-1)] (S sl p I J))) := by
  refine (r_iln (dk D252 6 rfl) rfl).trans ?_
  refine (r_aln (dk D252 7 rfl) rfl).trans ?_
  refine (r_getI (dk D252 8 rfl) ow252 q12_244 ob_46).trans ?_
  refine (r_ge (dk D252 9 rfl) rfl).trans (ite2 ?_ ?_)
  · refine (r_ldc (dk D252 10 rfl) ow252 k12_232).trans ?_
    refine (r_isn (L' := [.ref 46, .int l1, .int l2, .int 1000000, .retAddr 0]) (dk D252 11 rfl) (Nat.le_of_ble_eq_true rfl) rfl).trans ?_
    refine (r_ic (dk D252 12 rfl) ci0).trans ?_
    refine (r_is (L' := [.ref 46, .int l1, .int l2, .int 1000000, .int 0]) (dk D252 13 rfl) (Nat.le_of_ble_eq_true rfl) rfl).trans ?_
    exact rfl
  · refine (r_aln (dk D252 50 rfl) rfl).trans ?_
    refine (r_bp (dk D252 51 rfl) cb31).trans ?_
    refine (r_iln (dk D252 52 rfl) rfl).trans ?_
    refine (r_imul (dk D252 53 rfl)).trans ?_
    refine (r_aln (dk D252 54 rfl) rfl).trans ?_
    refine (r_ic (dk D252 55 rfl) cim1).trans ?_
    exact r_cv (dk D252 56 rfl) ow252 c12_330 mf211 (Nat.le_of_ble_eq_true rfl) rfl rfl (Nat.le_of_ble_eq_true rfl) (Nat.le_of_ble_eq_true rfl) ob_46
theorem E252_23 {d sl : Nat} {p : Nat → Nat} {I : Nat → Nat → Int32} {J : Nat → Nat → Int64} (l1 : Int32) (l2 : Int32) (l3 : Int32) (l4 : Int32)  : ev (d + 1) 252 23 [.ref 46, .int l1, .int l2, .int l3, .int l4] [] (S sl p I J) = (if l4 < (I 46 2) then ck (ixb 60 l4) ((if (I 61 (Int32.toNatClampNeg l4)) = l2 then evK (d + 1) 252 50 [.ref 46, .int l1, .int l2, .int l3, .int l4] [.int l3] (den d 207 [.ref 46, .int l4] (S sl p I J)) else ev (d + 1) 252 23 [.ref 46, .int l1, .int l2, .int l3, .int (l4 + 1)] [] (S sl p I J))) else evK (d + 1) 252 80 [.ref 46, .int ((31 * l1) + l3), .int l2, .int l3, .int l4] [.int (31 * ((31 * l1) + l3))] (den d 211 [.ref 46, .int l2] (S sl p I J))) := by
  refine (r_il (dk D252 14 rfl) rfl).trans ?_
  refine (r_aln (dk D252 15 rfl) rfl).trans ?_
  refine (r_getI (dk D252 16 rfl) ow252 q12_196 ob_46).trans ?_
  refine (r_ge (dk D252 17 rfl) rfl).trans (ite2 ?_ ?_)
  · refine (r_aln (dk D252 18 rfl) rfl).trans ?_
    refine (r_getR (dk D252 19 rfl) ow252 q12_71 ob_46 rfl).trans ?_
    refine (r_il (dk D252 20 rfl) rfl).trans ?_
    refine (r_ild (dk D252 21 rfl) ar_61).trans (ck3 fun g1 => ?_)
    refine (r_iln (dk D252 22 rfl) rfl).trans ?_
    refine (r_ne (dk D252 23 rfl) rfl).trans (ite2 ?_ ?_)
    · refine (r_iln (dk D252 24 rfl) rfl).trans ?_
      refine (r_aln (dk D252 25 rfl) rfl).trans ?_
      refine (r_il (dk D252 26 rfl) rfl).trans ?_
      exact r_cv (dk D252 27 rfl) ow252 c12_233 mf207 (Nat.le_of_ble_eq_true rfl) rfl rfl (Nat.le_of_ble_eq_true rfl) (Nat.le_of_ble_eq_true rfl) ob_46
    · refine (r_iln (dk D252 30 rfl) rfl).trans ?_
      refine (r_isn (L' := [.ref 46, .int l1, .int l2, .int l3, .int l4]) (dk D252 31 rfl) (Nat.le_of_ble_eq_true rfl) rfl).trans ?_
      refine (r_inc (L' := [.ref 46, .int l1, .int l2, .int l3, .int (l4 + 1)]) (dk D252 32 rfl) rfl rfl ci1 (Nat.le_of_ble_eq_true rfl) rfl).trans ?_
      refine (r_goto (L' := [.ref 46, .int l1, .int l2, .int l3, .int (l4 + 1)]) (dk D252 33 rfl) rfl nd252_23 rfl).trans ?_
      exact rfl
  · refine (r_bp (dk D252 34 rfl) cb31).trans ?_
    refine (r_iln (dk D252 35 rfl) rfl).trans ?_
    refine (r_imul (dk D252 36 rfl)).trans ?_
    refine (r_iln (dk D252 37 rfl) rfl).trans ?_
    refine (r_iadd (dk D252 38 rfl)).trans ?_
    refine (r_isn (L' := [.ref 46, .int ((31 * l1) + l3), .int l2, .int l3, .int l4]) (dk D252 39 rfl) (Nat.le_of_ble_eq_true rfl) rfl).trans ?_
    refine (r_bp (dk D252 40 rfl) cb31).trans ?_
    refine (r_iln (dk D252 41 rfl) rfl).trans ?_
    refine (r_imul (dk D252 42 rfl)).trans ?_
    refine (r_aln (dk D252 43 rfl) rfl).trans ?_
    refine (r_iln (dk D252 44 rfl) rfl).trans ?_
    exact r_cv (dk D252 45 rfl) ow252 c12_330 mf211 (Nat.le_of_ble_eq_true rfl) rfl rfl (Nat.le_of_ble_eq_true rfl) (Nat.le_of_ble_eq_true rfl) ob_46
theorem E252_50 {d sl : Nat} {p : Nat → Nat} {I : Nat → Nat → Int32} {J : Nat → Nat → Int64} (l1 : Int32) (l2 : Int32) (l3 : Int32) (l4 : Int32) (s0 : Int32) (s1 : Int32)  : ev (d + 1) 252 50 [.ref 46, .int l1, .int l2, .int l3, .int l4] [.int s0, .int s1] (S sl p I J) = ev (d + 1) 252 23 [.ref 46, .int l1, .int l2, .int (if s0 < s1 then s0 else s1), .int (l4 + 1)] [] (S sl p I J) := by
  refine (r_prm (st' := [.int (if s0 < s1 then s0 else s1)]) (dk D252 28 rfl) ow252 p12_236 (Nat.le_of_ble_eq_true rfl) rfl).trans ?_
  refine (r_goto (L' := [.ref 46, .int l1, .int l2, .int l3, .int l4]) (dk D252 29 rfl) rfl nd252_57 rfl).trans ?_
  refine (r_isn (L' := [.ref 46, .int l1, .int l2, .int (if s0 < s1 then s0 else s1), .int l4]) (dk D252 31 rfl) (Nat.le_of_ble_eq_true rfl) rfl).trans ?_
  refine (r_inc (L' := [.ref 46, .int l1, .int l2, .int (if s0 < s1 then s0 else s1), .int (l4 + 1)]) (dk D252 32 rfl) rfl rfl ci1 (Nat.le_of_ble_eq_true rfl) rfl).trans ?_
  refine (r_goto (L' := [.ref 46, .int l1, .int l2, .int (if s0 < s1 then s0 else s1), .int (l4 + 1)]) (dk D252 33 rfl) rfl nd252_23 rfl).trans ?_
  exact rfl
theorem E252_80 {d sl : Nat} {p : Nat → Nat} {I : Nat → Nat → Int32} {J : Nat → Nat → Int64} (l1 : Int32) (l2 : Int32) (l3 : Int32) (l4 : Int32) (s0 : Int32) (s1 : Int32)  : ev d 252 80 [.ref 46, .int l1, .int l2, .int l3, .int l4] [.int s0, .int s1] (S sl p I J) = ev d 252 9 [.ref 46, .int (s1 + s0), .int (l2 + 1), .retAddr 0, .retAddr 0] [] (S sl p I J) := by
  refine (r_iadd (dk D252 46 rfl)).trans ?_
  refine (r_isn (L' := [.ref 46, .int (s1 + s0), .int l2, .int l3, .int l4]) (dk D252 47 rfl) (Nat.le_of_ble_eq_true rfl) rfl).trans ?_
  refine (r_inc (L' := [.ref 46, .int (s1 + s0), .int (l2 + 1), .int l3, .int l4]) (dk D252 48 rfl) rfl rfl ci1 (Nat.le_of_ble_eq_true rfl) rfl).trans ?_
  refine (r_goto (L' := [.ref 46, .int (s1 + s0), .int (l2 + 1), .retAddr 0, .retAddr 0]) (dk D252 49 rfl) rfl nd252_9 rfl).trans ?_
  exact rfl
theorem E252_98 {d sl : Nat} {p : Nat → Nat} {I : Nat → Nat → Int32} {J : Nat → Nat → Int64} (l1 : Int32) (l2 : Int32) (s0 : Int32) (s1 : Int32)  : ev (d + 1) 252 98 [.ref 46, .int l1, .int l2, .retAddr 0, .retAddr 0] [.int s0, .int s1, .ref 46] (S sl p I J) = evK (d + 1) 252 102 [.ref 46, .int l1, .int l2, .retAddr 0, .retAddr 0] [] (den d 179 [.ref 46, .int (s1 + s0)] (S sl p I J)) := by
  refine (r_iadd (dk D252 57 rfl)).trans ?_
  exact r_cv (dk D252 58 rfl) ow252 c12_193 mf179 (Nat.le_of_ble_eq_true rfl) rfl rfl (Nat.le_of_ble_eq_true rfl) (Nat.le_of_ble_eq_true rfl) ob_46
theorem E252_102 {d sl : Nat} {p : Nat → Nat} {I : Nat → Nat → Int32} {J : Nat → Nat → Int64} (l1 : Int32) (l2 : Int32) (s0 : Int32)  : ev d 252 102 [.ref 46, .int l1, .int l2, .retAddr 0, .retAddr 0] [.int s0] (S sl p I J) = some (some (.int s0), (S sl p I J)) := by
  exact r_ret (dk D252 59 rfl) rt252
set_option maxRecDepth 20000 in
theorem D253 : dOK 253 [(0, .aload_n 0, 1), (1, .iload_n 1, 1), (2, .invokevirtual 210, 3), (5, .ifCond .ne 9, 3), (8, .aload_n 0, 1), (9, .iconst 2, 1), (10, .invokevirtual 183, 3), (13, .ireturn, 1), (14, .aload_n 0, 1), (15, .aload_n 0, 1), (16, .getfield 7, 3), (19, .iload_n 1, 1), (20, .invokevirtual 238, 3), (23, .aload_n 0, 1), (24, .aload_n 0, 1), (25, .invokevirtual 241, 3), (28, .invokevirtual 193, 3), (31, .ireturn, 1)] = true := by decide +kernel
theorem E253_0 {d sl : Nat} {p : Nat → Nat} {I : Nat → Nat → Int32} {J : Nat → Nat → Int64} (a1 : Int32)  : den (d + 1) 253 [.ref 46, .int a1] (S sl p I J) = evK (d + 1) 253 5 [.ref 46, .int a1] [] (den d 201 [.ref 46, .int a1] (S sl p I J)) := by
  refine (show den (d + 1) 253 [.ref 46, .int a1] (S sl p I J) = ev (d + 1) 253 0 [.ref 46, .int a1] [] (S sl p I J) from rfl).trans ?_
  refine (r_aln (dk D253 0 rfl) rfl).trans ?_
  refine (r_iln (dk D253 1 rfl) rfl).trans ?_
  exact r_cv (dk D253 2 rfl) ow253 c12_210 mf201 (Nat.le_of_ble_eq_true rfl) rfl rfl (Nat.le_of_ble_eq_true rfl) (Nat.le_of_ble_eq_true rfl) ob_46
theorem E253_5 {d sl : Nat} {p : Nat → Nat} {I : Nat → Nat → Int32} {J : Nat → Nat → Int64} (l1 : Int32) (s0 : Int32)  : ev (d + 1) 253 5 [.ref 46, .int l1] [.int s0] (S sl p I J) = (if s0 = 0 then evK (d + 1) 253 13 [.ref 46, .int l1] [] (den d 178 [.ref 46, .int 2] (S sl p I J)) else evK (d + 1) 253 23 [.ref 46, .int l1] [] (den d 208 [.ref 46, .int (I 46 3), .int l1] (S sl p I J))) := by
  refine (r_ne0 (dk D253 3 rfl) rfl).trans (ite2 ?_ ?_)
  · refine (r_aln (dk D253 4 rfl) rfl).trans ?_
    refine (r_ic (dk D253 5 rfl) ci2).trans ?_
    exact r_cv (dk D253 6 rfl) ow253 c12_183 mf178 (Nat.le_of_ble_eq_true rfl) rfl rfl (Nat.le_of_ble_eq_true rfl) (Nat.le_of_ble_eq_true rfl) ob_46
  · refine (r_aln (dk D253 8 rfl) rfl).trans ?_
    refine (r_aln (dk D253 9 rfl) rfl).trans ?_
    refine (r_getI (dk D253 10 rfl) ow253 q12_7 ob_46).trans ?_
    refine (r_iln (dk D253 11 rfl) rfl).trans ?_
    exact r_cv (dk D253 12 rfl) ow253 c12_238 mf208 (Nat.le_of_ble_eq_true rfl) rfl rfl (Nat.le_of_ble_eq_true rfl) (Nat.le_of_ble_eq_true rfl) ob_46
theorem E253_13 {d sl : Nat} {p : Nat → Nat} {I : Nat → Nat → Int32} {J : Nat → Nat → Int64} (l1 : Int32) (s0 : Int32)  : ev d 253 13 [.ref 46, .int l1] [.int s0] (S sl p I J) = some (some (.int s0), (S sl p I J)) := by
  exact r_ret (dk D253 7 rfl) rt253
theorem E253_23 {d sl : Nat} {p : Nat → Nat} {I : Nat → Nat → Int32} {J : Nat → Nat → Int64} (l1 : Int32)  : ev (d + 1) 253 23 [.ref 46, .int l1] [] (S sl p I J) = evK (d + 1) 253 28 [.ref 46, .int l1] [.ref 46] (den d 209 [.ref 46] (S sl p I J)) := by
  refine (r_aln (dk D253 13 rfl) rfl).trans ?_
  refine (r_aln (dk D253 14 rfl) rfl).trans ?_
  exact r_cv (dk D253 15 rfl) ow253 c12_241 mf209 (Nat.le_of_ble_eq_true rfl) rfl rfl (Nat.le_of_ble_eq_true rfl) (Nat.le_of_ble_eq_true rfl) ob_46
theorem E253_28 {d sl : Nat} {p : Nat → Nat} {I : Nat → Nat → Int32} {J : Nat → Nat → Int64} (l1 : Int32) (s0 : Int32)  : ev (d + 1) 253 28 [.ref 46, .int l1] [.int s0, .ref 46] (S sl p I J) = evK (d + 1) 253 31 [.ref 46, .int l1] [] (den d 179 [.ref 46, .int s0] (S sl p I J)) := by
  exact r_cv (dk D253 16 rfl) ow253 c12_193 mf179 (Nat.le_of_ble_eq_true rfl) rfl rfl (Nat.le_of_ble_eq_true rfl) (Nat.le_of_ble_eq_true rfl) ob_46
theorem E253_31 {d sl : Nat} {p : Nat → Nat} {I : Nat → Nat → Int32} {J : Nat → Nat → Int64} (l1 : Int32) (s0 : Int32)  : ev d 253 31 [.ref 46, .int l1] [.int s0] (S sl p I J) = some (some (.int s0), (S sl p I J)) := by
  exact r_ret (dk D253 17 rfl) rt253
set_option maxRecDepth 20000 in
theorem D254 : dOK 254 [(0, .aload_n 0, 1), (1, .aload_n 0, 1), (2, .getfield 7, 3), (5, .iload_n 1, 1), (6, .invokevirtual 238, 3), (9, .iconst (-1), 1), (10, .istore_n 2, 1), (11, .iconst 0, 1), (12, .istore_n 3, 1), (13, .iload_n 3, 1), (14, .aload_n 0, 1), (15, .getfield 196, 3), (18, .if_icmp .ge 56, 3), (21, .iload_n 3, 1), (22, .iload_n 1, 1), (23, .if_icmp .eq 45, 3), (26, .aload_n 0, 1), (27, .getfield 71, 3), (30, .iload_n 3, 1), (31, .iaload, 1), (32, .aload_n 0, 1), (33, .getfield 71, 3), (36, .iload_n 1, 1), (37, .iaload, 1), (38, .if_icmp .eq 6, 3), (41, .goto 27, 3), (44, .iload_n 2, 1), (45, .iconst (-1), 1), (46, .if_icmp .eq 15, 3), (49, .aload_n 0, 1), (50, .getfield 68, 3), (53, .iload_n 3, 1), (54, .iaload, 1), (55, .iload_n 2, 1), (56, .if_icmp .eq 5, 3), (59, .iconst 1, 1), (60, .ireturn, 1), (61, .aload_n 0, 1), (62, .getfield 68, 3), (65, .iload_n 3, 1), (66, .iaload, 1), (67, .istore_n 2, 1), (68, .iinc 3 1, 3), (71, .goto (-58), 3), (74, .iconst 0, 1), (75, .ireturn, 1)] = true := by decide +kernel
theorem E254_0 {d sl : Nat} {p : Nat → Nat} {I : Nat → Nat → Int32} {J : Nat → Nat → Int64} (a1 : Int32)  : den (d + 1) 254 [.ref 46, .int a1] (S sl p I J) = evK (d + 1) 254 9 [.ref 46, .int a1, .retAddr 0, .retAddr 0] [] (den d 208 [.ref 46, .int (I 46 3), .int a1] (S sl p I J)) := by
  refine (show den (d + 1) 254 [.ref 46, .int a1] (S sl p I J) = ev (d + 1) 254 0 [.ref 46, .int a1, .retAddr 0, .retAddr 0] [] (S sl p I J) from rfl).trans ?_
  refine (r_aln (dk D254 0 rfl) rfl).trans ?_
  refine (r_aln (dk D254 1 rfl) rfl).trans ?_
  refine (r_getI (dk D254 2 rfl) ow254 q12_7 ob_46).trans ?_
  refine (r_iln (dk D254 3 rfl) rfl).trans ?_
  exact r_cv (dk D254 4 rfl) ow254 c12_238 mf208 (Nat.le_of_ble_eq_true rfl) rfl rfl (Nat.le_of_ble_eq_true rfl) (Nat.le_of_ble_eq_true rfl) ob_46
theorem E254_9 {d sl : Nat} {p : Nat → Nat} {I : Nat → Nat → Int32} {J : Nat → Nat → Int64} (l1 : Int32)  : ev d 254 9 [.ref 46, .int l1, .retAddr 0, .retAddr 0] [] (S sl p I J) = ev d 254 13 [.ref 46, .int l1, .int (-1), .int 0] [] (S sl p I J) := by
  refine (r_ic (dk D254 5 rfl) cim1).trans ?_
  refine (r_isn (L' := [.ref 46, .int l1, .int (-1), .retAddr 0]) (dk D254 6 rfl) (Nat.le_of_ble_eq_true rfl) rfl).trans ?_
  refine (r_ic (dk D254 7 rfl) ci0).trans ?_
  refine (r_isn (L' := [.ref 46, .int l1, .int (-1), .int 0]) (dk D254 8 rfl) (Nat.le_of_ble_eq_true rfl) rfl).trans ?_
  exact rfl
theorem E254_13 {d sl : Nat} {p : Nat → Nat} {I : Nat → Nat → Int32} {J : Nat → Nat → Int64} (l1 : Int32) (l2 : Int32) (l3 : Int32)  : ev d 254 13 [.ref 46, .int l1, .int l2, .int l3] [] (S sl p I J) = (if l3 < (I 46 2) then (if l3 = l1 then ev d 254 13 [.ref 46, .int l1, .int l2, .int (l3 + 1)] [] (S sl p I J) else ck (ixb 60 l3) (ck (ixb 60 l1) ((if (I 61 (Int32.toNatClampNeg l3)) = (I 61 (Int32.toNatClampNeg l1)) then (if l2 = (-1) then ck (ixb 60 l3) (ev d 254 13 [.ref 46, .int l1, .int (I 60 (Int32.toNatClampNeg l3)), .int (l3 + 1)] [] (S sl p I J)) else ck (ixb 60 l3) ((if (I 60 (Int32.toNatClampNeg l3)) = l2 then ck (ixb 60 l3) (ev d 254 13 [.ref 46, .int l1, .int (I 60 (Int32.toNatClampNeg l3)), .int (l3 + 1)] [] (S sl p I J)) else some (some (.int 1), (S sl p I J))))) else ev d 254 13 [.ref 46, .int l1, .int l2, .int (l3 + 1)] [] (S sl p I J))))) else some (some (.int 0), (S sl p I J))) := by
  refine (r_iln (dk D254 9 rfl) rfl).trans ?_
  refine (r_aln (dk D254 10 rfl) rfl).trans ?_
  refine (r_getI (dk D254 11 rfl) ow254 q12_196 ob_46).trans ?_
  refine (r_ge (dk D254 12 rfl) rfl).trans (ite2 ?_ ?_)
  · refine (r_iln (dk D254 13 rfl) rfl).trans ?_
    refine (r_iln (dk D254 14 rfl) rfl).trans ?_
    refine (r_eq (dk D254 15 rfl) rfl).trans (ite2 ?_ ?_)
    · refine (r_inc (L' := [.ref 46, .int l1, .int l2, .int (l3 + 1)]) (dk D254 42 rfl) rfl rfl ci1 (Nat.le_of_ble_eq_true rfl) rfl).trans ?_
      refine (r_goto (L' := [.ref 46, .int l1, .int l2, .int (l3 + 1)]) (dk D254 43 rfl) rfl nd254_13 rfl).trans ?_
      exact rfl
    · refine (r_aln (dk D254 16 rfl) rfl).trans ?_
      refine (r_getR (dk D254 17 rfl) ow254 q12_71 ob_46 rfl).trans ?_
      refine (r_iln (dk D254 18 rfl) rfl).trans ?_
      refine (r_ild (dk D254 19 rfl) ar_61).trans (ck3 fun g1 => ?_)
      refine (r_aln (dk D254 20 rfl) rfl).trans ?_
      refine (r_getR (dk D254 21 rfl) ow254 q12_71 ob_46 rfl).trans ?_
      refine (r_iln (dk D254 22 rfl) rfl).trans ?_
      refine (r_ild (dk D254 23 rfl) ar_61).trans (ck3 fun g2 => ?_)
      refine (r_eq (dk D254 24 rfl) rfl).trans (ite2 ?_ ?_)
      · refine (r_iln (dk D254 26 rfl) rfl).trans ?_
        refine (r_ic (dk D254 27 rfl) cim1).trans ?_
        refine (r_eq (dk D254 28 rfl) rfl).trans (ite2 ?_ ?_)
        · refine (r_aln (dk D254 37 rfl) rfl).trans ?_
          refine (r_getR (dk D254 38 rfl) ow254 q12_68 ob_46 rfl).trans ?_
          refine (r_iln (dk D254 39 rfl) rfl).trans ?_
          refine (r_ild (dk D254 40 rfl) ar_60).trans (ck3 fun g3 => ?_)
          refine (r_isn (L' := [.ref 46, .int l1, .int (I 60 (Int32.toNatClampNeg l3)), .int l3]) (dk D254 41 rfl) (Nat.le_of_ble_eq_true rfl) rfl).trans ?_
          refine (r_inc (L' := [.ref 46, .int l1, .int (I 60 (Int32.toNatClampNeg l3)), .int (l3 + 1)]) (dk D254 42 rfl) rfl rfl ci1 (Nat.le_of_ble_eq_true rfl) rfl).trans ?_
          refine (r_goto (L' := [.ref 46, .int l1, .int (I 60 (Int32.toNatClampNeg l3)), .int (l3 + 1)]) (dk D254 43 rfl) rfl nd254_13 rfl).trans ?_
          exact rfl
        · refine (r_aln (dk D254 29 rfl) rfl).trans ?_
          refine (r_getR (dk D254 30 rfl) ow254 q12_68 ob_46 rfl).trans ?_
          refine (r_iln (dk D254 31 rfl) rfl).trans ?_
          refine (r_ild (dk D254 32 rfl) ar_60).trans (ck3 fun g4 => ?_)
          refine (r_iln (dk D254 33 rfl) rfl).trans ?_
          refine (r_eq (dk D254 34 rfl) rfl).trans (ite2 ?_ ?_)
          · refine (r_aln (dk D254 37 rfl) rfl).trans ?_
            refine (r_getR (dk D254 38 rfl) ow254 q12_68 ob_46 rfl).trans ?_
            refine (r_iln (dk D254 39 rfl) rfl).trans ?_
            refine (r_ild (dk D254 40 rfl) ar_60).trans (ck3 fun g5 => ?_)
            refine (r_isn (L' := [.ref 46, .int l1, .int (I 60 (Int32.toNatClampNeg l3)), .int l3]) (dk D254 41 rfl) (Nat.le_of_ble_eq_true rfl) rfl).trans ?_
            refine (r_inc (L' := [.ref 46, .int l1, .int (I 60 (Int32.toNatClampNeg l3)), .int (l3 + 1)]) (dk D254 42 rfl) rfl rfl ci1 (Nat.le_of_ble_eq_true rfl) rfl).trans ?_
            refine (r_goto (L' := [.ref 46, .int l1, .int (I 60 (Int32.toNatClampNeg l3)), .int (l3 + 1)]) (dk D254 43 rfl) rfl nd254_13 rfl).trans ?_
            exact rfl
          · refine (r_ic (dk D254 35 rfl) ci1).trans ?_
            exact r_rez (dk D254 36 rfl) rt254 (by decide)
      · refine (r_goto (L' := [.ref 46, .int l1, .int l2, .int l3]) (dk D254 25 rfl) rfl nd254_68 rfl).trans ?_
        refine (r_inc (L' := [.ref 46, .int l1, .int l2, .int (l3 + 1)]) (dk D254 42 rfl) rfl rfl ci1 (Nat.le_of_ble_eq_true rfl) rfl).trans ?_
        refine (r_goto (L' := [.ref 46, .int l1, .int l2, .int (l3 + 1)]) (dk D254 43 rfl) rfl nd254_13 rfl).trans ?_
        exact rfl
  · refine (r_ic (dk D254 44 rfl) ci0).trans ?_
    exact r_rez (dk D254 45 rfl) rt254 (by decide)
set_option maxRecDepth 20000 in
theorem D255 : dOK 255 [(0, .iload_n 1, 1), (1, .iconst 0, 1), (2, .iconst 1, 1), (3, .invokestatic 178, 3), (6, .ifCond .ne 9, 3), (9, .aload_n 0, 1), (10, .iconst 1, 1), (11, .invokevirtual 183, 3), (14, .ireturn, 1), (15, .aload_n 0, 1), (16, .invokevirtual 216, 3), (19, .iconst 0, 1), (20, .istore_n 2, 1), (21, .iconst (-1), 1), (22, .istore_n 3, 1), (23, .iconst 0, 1), (24, .istore 4, 2), (26, .iload 4, 2), (28, .aload_n 0, 1), (29, .getfield 196, 3), (32, .if_icmp .ge 46, 3), (35, .aload_n 0, 1), (36, .getfield 71, 3), (39, .iload 4, 2), (41, .iaload, 1), (42, .iconst (-1), 1), (43, .if_icmp .eq 29, 3), (46, .aload_n 0, 1), (47, .iload 4, 2), (49, .invokevirtual 369, 3), (52, .ifCond .ne 6, 3), (55, .goto 17, 3), (58, .iload_n 2, 1), (59, .ifCond .ne 8, 3), (62, .iload 4, 2), (64, .goto 4, 3), (67, .iload_n 3, 1), (68, .istore_n 3, 1), (69, .iinc 2 1, 3), (72, .iinc 4 1, 3), (75, .goto (-49), 3), (78, .iload_n 1, 1), (79, .ifCond .ne 11, 3), (82, .aload_n 0, 1), (83, .iload_n 2, 1), (84, .invokevirtual 193, 3), (87, .goto 20, 3), (90, .iload_n 2, 1), (91, .ifCond .ne 11, 3), (94, .aload_n 0, 1), (95, .iconst 5, 1), (96, .invokevirtual 183, 3), (99, .goto 8, 3), (102, .aload_n 0, 1), (103, .iload_n 3, 1), (104, .invokevirtual 193, 3), (107, .ireturn, 1)] = true := by decide +kernel
theorem E255_0 {d sl : Nat} {p : Nat → Nat} {I : Nat → Nat → Int32} {J : Nat → Nat → Int64} (a1 : Int32)  : den (d + 1) 255 [.ref 46, .int a1] (S sl p I J) = evK (d + 1) 255 6 [.ref 46, .int a1, .retAddr 0, .retAddr 0, .retAddr 0] [] (den d 181 [.int a1, .int 0, .int 1] (S sl p I J)) := by
  refine (show den (d + 1) 255 [.ref 46, .int a1] (S sl p I J) = ev (d + 1) 255 0 [.ref 46, .int a1, .retAddr 0, .retAddr 0, .retAddr 0] [] (S sl p I J) from rfl).trans ?_
  refine (r_iln (dk D255 0 rfl) rfl).trans ?_
  refine (r_ic (dk D255 1 rfl) ci0).trans ?_
  refine (r_ic (dk D255 2 rfl) ci1).trans ?_
  exact r_cs (dk D255 3 rfl) ow255 pn12_178 c12_178 mf181 (Nat.le_of_ble_eq_true rfl) rfl rfl (Nat.le_of_ble_eq_true rfl) (Nat.le_of_ble_eq_true rfl)
theorem E255_6 {d sl : Nat} {p : Nat → Nat} {I : Nat → Nat → Int32} {J : Nat → Nat → Int64} (l1 : Int32) (s0 : Int32)  : ev (d + 1) 255 6 [.ref 46, .int l1, .retAddr 0, .retAddr 0, .retAddr 0] [.int s0] (S sl p I J) = (if s0 = 0 then evK (d + 1) 255 14 [.ref 46, .int l1, .retAddr 0, .retAddr 0, .retAddr 0] [] (den d 178 [.ref 46, .int 1] (S sl p I J)) else evK (d + 1) 255 19 [.ref 46, .int l1, .retAddr 0, .retAddr 0, .retAddr 0] [] (den d 210 [.ref 46] (S sl p I J))) := by
  refine (r_ne0 (dk D255 4 rfl) rfl).trans (ite2 ?_ ?_)
  · refine (r_aln (dk D255 5 rfl) rfl).trans ?_
    refine (r_ic (dk D255 6 rfl) ci1).trans ?_
    exact r_cv (dk D255 7 rfl) ow255 c12_183 mf178 (Nat.le_of_ble_eq_true rfl) rfl rfl (Nat.le_of_ble_eq_true rfl) (Nat.le_of_ble_eq_true rfl) ob_46
  · refine (r_aln (dk D255 9 rfl) rfl).trans ?_
    exact r_cv (dk D255 10 rfl) ow255 c12_216 mf210 (Nat.le_of_ble_eq_true rfl) rfl rfl (Nat.le_of_ble_eq_true rfl) (Nat.le_of_ble_eq_true rfl) ob_46
theorem E255_14 {d sl : Nat} {p : Nat → Nat} {I : Nat → Nat → Int32} {J : Nat → Nat → Int64} (l1 : Int32) (s0 : Int32)  : ev d 255 14 [.ref 46, .int l1, .retAddr 0, .retAddr 0, .retAddr 0] [.int s0] (S sl p I J) = some (some (.int s0), (S sl p I J)) := by
  exact r_ret (dk D255 8 rfl) rt255
theorem E255_19 {d sl : Nat} {p : Nat → Nat} {I : Nat → Nat → Int32} {J : Nat → Nat → Int64} (l1 : Int32)  : ev d 255 19 [.ref 46, .int l1, .retAddr 0, .retAddr 0, .retAddr 0] [] (S sl p I J) = ev d 255 26 [.ref 46, .int l1, .int 0, .int (-1), .int 0] [] (S sl p I J) := by
  refine (r_ic (dk D255 11 rfl) ci0).trans ?_
  refine (r_isn (L' := [.ref 46, .int l1, .int 0, .retAddr 0, .retAddr 0]) (dk D255 12 rfl) (Nat.le_of_ble_eq_true rfl) rfl).trans ?_
  refine (r_ic (dk D255 13 rfl) cim1).trans ?_
  refine (r_isn (L' := [.ref 46, .int l1, .int 0, .int (-1), .retAddr 0]) (dk D255 14 rfl) (Nat.le_of_ble_eq_true rfl) rfl).trans ?_
  refine (r_ic (dk D255 15 rfl) ci0).trans ?_
  refine (r_is (L' := [.ref 46, .int l1, .int 0, .int (-1), .int 0]) (dk D255 16 rfl) (Nat.le_of_ble_eq_true rfl) rfl).trans ?_
  exact rfl
theorem E255_26 {d sl : Nat} {p : Nat → Nat} {I : Nat → Nat → Int32} {J : Nat → Nat → Int64} (l1 : Int32) (l2 : Int32) (l3 : Int32) (l4 : Int32)  : ev (d + 1) 255 26 [.ref 46, .int l1, .int l2, .int l3, .int l4] [] (S sl p I J) = (if l4 < (I 46 2) then ck (ixb 60 l4) ((if (I 61 (Int32.toNatClampNeg l4)) = (-1) then ev (d + 1) 255 26 [.ref 46, .int l1, .int l2, .int l3, .int (l4 + 1)] [] (S sl p I J) else evK (d + 1) 255 52 [.ref 46, .int l1, .int l2, .int l3, .int l4] [] (den d 254 [.ref 46, .int l4] (S sl p I J)))) else (if l1 = 0 then evK (d + 1) 255 87 [.ref 46, .int l1, .int l2, .int l3, .int l4] [] (den d 179 [.ref 46, .int l2] (S sl p I J)) else (if l2 = 0 then evK (d + 1) 255 99 [.ref 46, .int l1, .int l2, .int l3, .int l4] [] (den d 178 [.ref 46, .int 5] (S sl p I J)) else evK (d + 1) 255 107 [.ref 46, .int l1, .int l2, .int l3, .int l4] [] (den d 179 [.ref 46, .int l3] (S sl p I J))))) := by
  refine (r_il (dk D255 17 rfl) rfl).trans ?_
  refine (r_aln (dk D255 18 rfl) rfl).trans ?_
  refine (r_getI (dk D255 19 rfl) ow255 q12_196 ob_46).trans ?_
  refine (r_ge (dk D255 20 rfl) rfl).trans (ite2 ?_ ?_)
  · refine (r_aln (dk D255 21 rfl) rfl).trans ?_
    refine (r_getR (dk D255 22 rfl) ow255 q12_71 ob_46 rfl).trans ?_
    refine (r_il (dk D255 23 rfl) rfl).trans ?_
    refine (r_ild (dk D255 24 rfl) ar_61).trans (ck3 fun g1 => ?_)
    refine (r_ic (dk D255 25 rfl) cim1).trans ?_
    refine (r_eq (dk D255 26 rfl) rfl).trans (ite2 ?_ ?_)
    · refine (r_inc (L' := [.ref 46, .int l1, .int l2, .int l3, .int (l4 + 1)]) (dk D255 39 rfl) rfl rfl ci1 (Nat.le_of_ble_eq_true rfl) rfl).trans ?_
      refine (r_goto (L' := [.ref 46, .int l1, .int l2, .int l3, .int (l4 + 1)]) (dk D255 40 rfl) rfl nd255_26 rfl).trans ?_
      exact rfl
    · refine (r_aln (dk D255 27 rfl) rfl).trans ?_
      refine (r_il (dk D255 28 rfl) rfl).trans ?_
      exact r_cv (dk D255 29 rfl) ow255 c12_369 mf254 (Nat.le_of_ble_eq_true rfl) rfl rfl (Nat.le_of_ble_eq_true rfl) (Nat.le_of_ble_eq_true rfl) ob_46
  · refine (r_iln (dk D255 41 rfl) rfl).trans ?_
    refine (r_ne0 (dk D255 42 rfl) rfl).trans (ite2 ?_ ?_)
    · refine (r_aln (dk D255 43 rfl) rfl).trans ?_
      refine (r_iln (dk D255 44 rfl) rfl).trans ?_
      exact r_cv (dk D255 45 rfl) ow255 c12_193 mf179 (Nat.le_of_ble_eq_true rfl) rfl rfl (Nat.le_of_ble_eq_true rfl) (Nat.le_of_ble_eq_true rfl) ob_46
    · refine (r_iln (dk D255 47 rfl) rfl).trans ?_
      refine (r_ne0 (dk D255 48 rfl) rfl).trans (ite2 ?_ ?_)
      · refine (r_aln (dk D255 49 rfl) rfl).trans ?_
        refine (r_ic (dk D255 50 rfl) ci5).trans ?_
        exact r_cv (dk D255 51 rfl) ow255 c12_183 mf178 (Nat.le_of_ble_eq_true rfl) rfl rfl (Nat.le_of_ble_eq_true rfl) (Nat.le_of_ble_eq_true rfl) ob_46
      · refine (r_aln (dk D255 53 rfl) rfl).trans ?_
        refine (r_iln (dk D255 54 rfl) rfl).trans ?_
        exact r_cv (dk D255 55 rfl) ow255 c12_193 mf179 (Nat.le_of_ble_eq_true rfl) rfl rfl (Nat.le_of_ble_eq_true rfl) (Nat.le_of_ble_eq_true rfl) ob_46
theorem E255_52 {d sl : Nat} {p : Nat → Nat} {I : Nat → Nat → Int32} {J : Nat → Nat → Int64} (l1 : Int32) (l2 : Int32) (l3 : Int32) (l4 : Int32) (s0 : Int32)  : ev d 255 52 [.ref 46, .int l1, .int l2, .int l3, .int l4] [.int s0] (S sl p I J) = (if s0 = 0 then ev d 255 26 [.ref 46, .int l1, .int l2, .int l3, .int (l4 + 1)] [] (S sl p I J) else (if l2 = 0 then ev d 255 26 [.ref 46, .int l1, .int (l2 + 1), .int l4, .int (l4 + 1)] [] (S sl p I J) else ev d 255 26 [.ref 46, .int l1, .int (l2 + 1), .int l3, .int (l4 + 1)] [] (S sl p I J))) := by
  refine (r_ne0 (dk D255 30 rfl) rfl).trans (ite2 ?_ ?_)
  · refine (r_goto (L' := [.ref 46, .int l1, .int l2, .int l3, .int l4]) (dk D255 31 rfl) rfl nd255_72 rfl).trans ?_
    refine (r_inc (L' := [.ref 46, .int l1, .int l2, .int l3, .int (l4 + 1)]) (dk D255 39 rfl) rfl rfl ci1 (Nat.le_of_ble_eq_true rfl) rfl).trans ?_
    refine (r_goto (L' := [.ref 46, .int l1, .int l2, .int l3, .int (l4 + 1)]) (dk D255 40 rfl) rfl nd255_26 rfl).trans ?_
    exact rfl
  · refine (r_iln (dk D255 32 rfl) rfl).trans ?_
    refine (r_ne0 (dk D255 33 rfl) rfl).trans (ite2 ?_ ?_)
    · refine (r_il (dk D255 34 rfl) rfl).trans ?_
      refine (r_goto (L' := [.ref 46, .int l1, .int l2, .int l3, .int l4]) (dk D255 35 rfl) rfl nd255_68 rfl).trans ?_
      refine (r_isn (L' := [.ref 46, .int l1, .int l2, .int l4, .int l4]) (dk D255 37 rfl) (Nat.le_of_ble_eq_true rfl) rfl).trans ?_
      refine (r_inc (L' := [.ref 46, .int l1, .int (l2 + 1), .int l4, .int l4]) (dk D255 38 rfl) rfl rfl ci1 (Nat.le_of_ble_eq_true rfl) rfl).trans ?_
      refine (r_inc (L' := [.ref 46, .int l1, .int (l2 + 1), .int l4, .int (l4 + 1)]) (dk D255 39 rfl) rfl rfl ci1 (Nat.le_of_ble_eq_true rfl) rfl).trans ?_
      refine (r_goto (L' := [.ref 46, .int l1, .int (l2 + 1), .int l4, .int (l4 + 1)]) (dk D255 40 rfl) rfl nd255_26 rfl).trans ?_
      exact rfl
    · refine (r_iln (dk D255 36 rfl) rfl).trans ?_
      refine (r_isn (L' := [.ref 46, .int l1, .int l2, .int l3, .int l4]) (dk D255 37 rfl) (Nat.le_of_ble_eq_true rfl) rfl).trans ?_
      refine (r_inc (L' := [.ref 46, .int l1, .int (l2 + 1), .int l3, .int l4]) (dk D255 38 rfl) rfl rfl ci1 (Nat.le_of_ble_eq_true rfl) rfl).trans ?_
      refine (r_inc (L' := [.ref 46, .int l1, .int (l2 + 1), .int l3, .int (l4 + 1)]) (dk D255 39 rfl) rfl rfl ci1 (Nat.le_of_ble_eq_true rfl) rfl).trans ?_
      refine (r_goto (L' := [.ref 46, .int l1, .int (l2 + 1), .int l3, .int (l4 + 1)]) (dk D255 40 rfl) rfl nd255_26 rfl).trans ?_
      exact rfl
theorem E255_87 {d sl : Nat} {p : Nat → Nat} {I : Nat → Nat → Int32} {J : Nat → Nat → Int64} (l1 : Int32) (l2 : Int32) (l3 : Int32) (l4 : Int32) (s0 : Int32)  : ev d 255 87 [.ref 46, .int l1, .int l2, .int l3, .int l4] [.int s0] (S sl p I J) = some (some (.int s0), (S sl p I J)) := by
  refine (r_goto (L' := [.ref 46, .int l1, .int l2, .int l3, .int l4]) (dk D255 46 rfl) rfl nd255_107 rfl).trans ?_
  exact r_ret (dk D255 56 rfl) rt255
theorem E255_99 {d sl : Nat} {p : Nat → Nat} {I : Nat → Nat → Int32} {J : Nat → Nat → Int64} (l1 : Int32) (l2 : Int32) (l3 : Int32) (l4 : Int32) (s0 : Int32)  : ev d 255 99 [.ref 46, .int l1, .int l2, .int l3, .int l4] [.int s0] (S sl p I J) = some (some (.int s0), (S sl p I J)) := by
  refine (r_goto (L' := [.ref 46, .int l1, .int l2, .int l3, .int l4]) (dk D255 52 rfl) rfl nd255_107 rfl).trans ?_
  exact r_ret (dk D255 56 rfl) rt255
theorem E255_107 {d sl : Nat} {p : Nat → Nat} {I : Nat → Nat → Int32} {J : Nat → Nat → Int64} (l1 : Int32) (l2 : Int32) (l3 : Int32) (l4 : Int32) (s0 : Int32)  : ev d 255 107 [.ref 46, .int l1, .int l2, .int l3, .int l4] [.int s0] (S sl p I J) = some (some (.int s0), (S sl p I J)) := by
  exact r_ret (dk D255 56 rfl) rt255
set_option maxRecDepth 20000 in
theorem D256 : dOK 256 [(0, .iconst 0, 1), (1, .istore_n 2, 1), (2, .iconst 1, 1), (3, .istore_n 3, 1), (4, .iload_n 3, 1), (5, .aload_n 0, 1), (6, .getfield 244, 3), (9, .if_icmp .ge 30, 3), (12, .aload_n 0, 1), (13, .iload_n 1, 1), (14, .iload_n 3, 1), (15, .invokevirtual 315, 3), (18, .aload_n 0, 1), (19, .iload_n 1, 1), (20, .iload_n 2, 1), (21, .invokevirtual 315, 3), (24, .if_icmp .ge 7, 3), (27, .iload_n 3, 1), (28, .goto 4, 3), (31, .iload_n 2, 1), (32, .istore_n 2, 1), (33, .iinc 3 1, 3), (36, .goto (-32), 3), (39, .iload_n 2, 1), (40, .ireturn, 1)] = true := by decide +kernel
theorem E256_0 {d sl : Nat} {p : Nat → Nat} {I : Nat → Nat → Int32} {J : Nat → Nat → Int64} (a1 : Int32)  : den d 256 [.ref 46, .int a1] (S sl p I J) = ev d 256 4 [.ref 46, .int a1, .int 0, .int 1] [] (S sl p I J) := by
  refine (show den d 256 [.ref 46, .int a1] (S sl p I J) = ev d 256 0 [.ref 46, .int a1, .retAddr 0, .retAddr 0] [] (S sl p I J) from rfl).trans ?_
  refine (r_ic (dk D256 0 rfl) ci0).trans ?_
  refine (r_isn (L' := [.ref 46, .int a1, .int 0, .retAddr 0]) (dk D256 1 rfl) (Nat.le_of_ble_eq_true rfl) rfl).trans ?_
  refine (r_ic (dk D256 2 rfl) ci1).trans ?_
  refine (r_isn (L' := [.ref 46, .int a1, .int 0, .int 1]) (dk D256 3 rfl) (Nat.le_of_ble_eq_true rfl) rfl).trans ?_
  exact rfl
theorem E256_4 {d sl : Nat} {p : Nat → Nat} {I : Nat → Nat → Int32} {J : Nat → Nat → Int64} (l1 : Int32) (l2 : Int32) (l3 : Int32)  : ev (d + 1) 256 4 [.ref 46, .int l1, .int l2, .int l3] [] (S sl p I J) = (if l3 < (I 46 31) then evK (d + 1) 256 18 [.ref 46, .int l1, .int l2, .int l3] [] (den d 231 [.ref 46, .int l1, .int l3] (S sl p I J)) else some (some (.int l2), (S sl p I J))) := by
  refine (r_iln (dk D256 4 rfl) rfl).trans ?_
  refine (r_aln (dk D256 5 rfl) rfl).trans ?_
  refine (r_getI (dk D256 6 rfl) ow256 q12_244 ob_46).trans ?_
  refine (r_ge (dk D256 7 rfl) rfl).trans (ite2 ?_ ?_)
  · refine (r_aln (dk D256 8 rfl) rfl).trans ?_
    refine (r_iln (dk D256 9 rfl) rfl).trans ?_
    refine (r_iln (dk D256 10 rfl) rfl).trans ?_
    exact r_cv (dk D256 11 rfl) ow256 c12_315 mf231 (Nat.le_of_ble_eq_true rfl) rfl rfl (Nat.le_of_ble_eq_true rfl) (Nat.le_of_ble_eq_true rfl) ob_46
  · refine (r_iln (dk D256 23 rfl) rfl).trans ?_
    exact r_ret (dk D256 24 rfl) rt256
theorem E256_18 {d sl : Nat} {p : Nat → Nat} {I : Nat → Nat → Int32} {J : Nat → Nat → Int64} (l1 : Int32) (l2 : Int32) (l3 : Int32) (s0 : Int32)  : ev (d + 1) 256 18 [.ref 46, .int l1, .int l2, .int l3] [.int s0] (S sl p I J) = evK (d + 1) 256 24 [.ref 46, .int l1, .int l2, .int l3] [.int s0] (den d 231 [.ref 46, .int l1, .int l2] (S sl p I J)) := by
  refine (r_aln (dk D256 12 rfl) rfl).trans ?_
  refine (r_iln (dk D256 13 rfl) rfl).trans ?_
  refine (r_iln (dk D256 14 rfl) rfl).trans ?_
  exact r_cv (dk D256 15 rfl) ow256 c12_315 mf231 (Nat.le_of_ble_eq_true rfl) rfl rfl (Nat.le_of_ble_eq_true rfl) (Nat.le_of_ble_eq_true rfl) ob_46
theorem E256_24 {d sl : Nat} {p : Nat → Nat} {I : Nat → Nat → Int32} {J : Nat → Nat → Int64} (l1 : Int32) (l2 : Int32) (l3 : Int32) (s0 : Int32) (s1 : Int32)  : ev d 256 24 [.ref 46, .int l1, .int l2, .int l3] [.int s0, .int s1] (S sl p I J) = (if s1 < s0 then ev d 256 4 [.ref 46, .int l1, .int l3, .int (l3 + 1)] [] (S sl p I J) else ev d 256 4 [.ref 46, .int l1, .int l2, .int (l3 + 1)] [] (S sl p I J)) := by
  refine (r_ge (dk D256 16 rfl) rfl).trans (ite2 ?_ ?_)
  · refine (r_iln (dk D256 17 rfl) rfl).trans ?_
    refine (r_goto (L' := [.ref 46, .int l1, .int l2, .int l3]) (dk D256 18 rfl) rfl nd256_32 rfl).trans ?_
    refine (r_isn (L' := [.ref 46, .int l1, .int l3, .int l3]) (dk D256 20 rfl) (Nat.le_of_ble_eq_true rfl) rfl).trans ?_
    refine (r_inc (L' := [.ref 46, .int l1, .int l3, .int (l3 + 1)]) (dk D256 21 rfl) rfl rfl ci1 (Nat.le_of_ble_eq_true rfl) rfl).trans ?_
    refine (r_goto (L' := [.ref 46, .int l1, .int l3, .int (l3 + 1)]) (dk D256 22 rfl) rfl nd256_4 rfl).trans ?_
    exact rfl
  · refine (r_iln (dk D256 19 rfl) rfl).trans ?_
    refine (r_isn (L' := [.ref 46, .int l1, .int l2, .int l3]) (dk D256 20 rfl) (Nat.le_of_ble_eq_true rfl) rfl).trans ?_
    refine (r_inc (L' := [.ref 46, .int l1, .int l2, .int (l3 + 1)]) (dk D256 21 rfl) rfl rfl ci1 (Nat.le_of_ble_eq_true rfl) rfl).trans ?_
    refine (r_goto (L' := [.ref 46, .int l1, .int l2, .int (l3 + 1)]) (dk D256 22 rfl) rfl nd256_4 rfl).trans ?_
    exact rfl
set_option maxRecDepth 20000 in
theorem D257 : dOK 257 [(0, .iload_n 2, 1), (1, .iconst 0, 1), (2, .iconst 1, 1), (3, .invokestatic 178, 3), (6, .ifCond .ne 9, 3), (9, .aload_n 0, 1), (10, .iconst 1, 1), (11, .invokevirtual 183, 3), (14, .ireturn, 1), (15, .aload_n 0, 1), (16, .iload_n 1, 1), (17, .invokevirtual 210, 3), (20, .ifCond .ne 9, 3), (23, .aload_n 0, 1), (24, .iconst 2, 1), (25, .invokevirtual 183, 3), (28, .ireturn, 1), (29, .aload_n 0, 1), (30, .invokevirtual 339, 3), (33, .aload_n 0, 1), (34, .getfield 244, 3), (37, .ifCond .ne 9, 3), (40, .aload_n 0, 1), (41, .iconst 5, 1), (42, .invokevirtual 183, 3), (45, .ireturn, 1), (46, .aload_n 0, 1), (47, .iload_n 1, 1), (48, .invokevirtual 372, 3), (51, .istore_n 3, 1), (52, .aload_n 0, 1), (53, .iload_n 2, 1), (54, .ifCond .ne 7, 3), (57, .iload_n 3, 1), (58, .goto 9, 3), (61, .aload_n 0, 1), (62, .iload_n 1, 1), (63, .iload_n 3, 1), (64, .invokevirtual 315, 3), (67, .invokevirtual 193, 3), (70, .ireturn, 1)] = true := by decide +kernel
theorem E257_0 {d sl : Nat} {p : Nat → Nat} {I : Nat → Nat → Int32} {J : Nat → Nat → Int64} (a1 : Int32) (a2 : Int32)  : den (d + 1) 257 [.ref 46, .int a1, .int a2] (S sl p I J) = evK (d + 1) 257 6 [.ref 46, .int a1, .int a2, .retAddr 0] [] (den d 181 [.int a2, .int 0, .int 1] (S sl p I J)) := by
  refine (show den (d + 1) 257 [.ref 46, .int a1, .int a2] (S sl p I J) = ev (d + 1) 257 0 [.ref 46, .int a1, .int a2, .retAddr 0] [] (S sl p I J) from rfl).trans ?_
  refine (r_iln (dk D257 0 rfl) rfl).trans ?_
  refine (r_ic (dk D257 1 rfl) ci0).trans ?_
  refine (r_ic (dk D257 2 rfl) ci1).trans ?_
  exact r_cs (dk D257 3 rfl) ow257 pn12_178 c12_178 mf181 (Nat.le_of_ble_eq_true rfl) rfl rfl (Nat.le_of_ble_eq_true rfl) (Nat.le_of_ble_eq_true rfl)
theorem E257_6 {d sl : Nat} {p : Nat → Nat} {I : Nat → Nat → Int32} {J : Nat → Nat → Int64} (l1 : Int32) (l2 : Int32) (s0 : Int32)  : ev (d + 1) 257 6 [.ref 46, .int l1, .int l2, .retAddr 0] [.int s0] (S sl p I J) = (if s0 = 0 then evK (d + 1) 257 14 [.ref 46, .int l1, .int l2, .retAddr 0] [] (den d 178 [.ref 46, .int 1] (S sl p I J)) else evK (d + 1) 257 20 [.ref 46, .int l1, .int l2, .retAddr 0] [] (den d 201 [.ref 46, .int l1] (S sl p I J))) := by
  refine (r_ne0 (dk D257 4 rfl) rfl).trans (ite2 ?_ ?_)
  · refine (r_aln (dk D257 5 rfl) rfl).trans ?_
    refine (r_ic (dk D257 6 rfl) ci1).trans ?_
    exact r_cv (dk D257 7 rfl) ow257 c12_183 mf178 (Nat.le_of_ble_eq_true rfl) rfl rfl (Nat.le_of_ble_eq_true rfl) (Nat.le_of_ble_eq_true rfl) ob_46
  · refine (r_aln (dk D257 9 rfl) rfl).trans ?_
    refine (r_iln (dk D257 10 rfl) rfl).trans ?_
    exact r_cv (dk D257 11 rfl) ow257 c12_210 mf201 (Nat.le_of_ble_eq_true rfl) rfl rfl (Nat.le_of_ble_eq_true rfl) (Nat.le_of_ble_eq_true rfl) ob_46
theorem E257_14 {d sl : Nat} {p : Nat → Nat} {I : Nat → Nat → Int32} {J : Nat → Nat → Int64} (l1 : Int32) (l2 : Int32) (s0 : Int32)  : ev d 257 14 [.ref 46, .int l1, .int l2, .retAddr 0] [.int s0] (S sl p I J) = some (some (.int s0), (S sl p I J)) := by
  exact r_ret (dk D257 8 rfl) rt257
theorem E257_20 {d sl : Nat} {p : Nat → Nat} {I : Nat → Nat → Int32} {J : Nat → Nat → Int64} (l1 : Int32) (l2 : Int32) (s0 : Int32)  : ev (d + 1) 257 20 [.ref 46, .int l1, .int l2, .retAddr 0] [.int s0] (S sl p I J) = (if s0 = 0 then evK (d + 1) 257 28 [.ref 46, .int l1, .int l2, .retAddr 0] [] (den d 178 [.ref 46, .int 2] (S sl p I J)) else evK (d + 1) 257 33 [.ref 46, .int l1, .int l2, .retAddr 0] [] (den d 221 [.ref 46] (S sl p I J))) := by
  refine (r_ne0 (dk D257 12 rfl) rfl).trans (ite2 ?_ ?_)
  · refine (r_aln (dk D257 13 rfl) rfl).trans ?_
    refine (r_ic (dk D257 14 rfl) ci2).trans ?_
    exact r_cv (dk D257 15 rfl) ow257 c12_183 mf178 (Nat.le_of_ble_eq_true rfl) rfl rfl (Nat.le_of_ble_eq_true rfl) (Nat.le_of_ble_eq_true rfl) ob_46
  · refine (r_aln (dk D257 17 rfl) rfl).trans ?_
    exact r_cv (dk D257 18 rfl) ow257 c12_339 mf221 (Nat.le_of_ble_eq_true rfl) rfl rfl (Nat.le_of_ble_eq_true rfl) (Nat.le_of_ble_eq_true rfl) ob_46
theorem E257_28 {d sl : Nat} {p : Nat → Nat} {I : Nat → Nat → Int32} {J : Nat → Nat → Int64} (l1 : Int32) (l2 : Int32) (s0 : Int32)  : ev d 257 28 [.ref 46, .int l1, .int l2, .retAddr 0] [.int s0] (S sl p I J) = some (some (.int s0), (S sl p I J)) := by
  exact r_ret (dk D257 16 rfl) rt257
theorem E257_33 {d sl : Nat} {p : Nat → Nat} {I : Nat → Nat → Int32} {J : Nat → Nat → Int64} (l1 : Int32) (l2 : Int32)  : ev (d + 1) 257 33 [.ref 46, .int l1, .int l2, .retAddr 0] [] (S sl p I J) = (if (I 46 31) = 0 then evK (d + 1) 257 45 [.ref 46, .int l1, .int l2, .retAddr 0] [] (den d 178 [.ref 46, .int 5] (S sl p I J)) else evK (d + 1) 257 51 [.ref 46, .int l1, .int l2, .retAddr 0] [] (den d 256 [.ref 46, .int l1] (S sl p I J))) := by
  refine (r_aln (dk D257 19 rfl) rfl).trans ?_
  refine (r_getI (dk D257 20 rfl) ow257 q12_244 ob_46).trans ?_
  refine (r_ne0 (dk D257 21 rfl) rfl).trans (ite2 ?_ ?_)
  · refine (r_aln (dk D257 22 rfl) rfl).trans ?_
    refine (r_ic (dk D257 23 rfl) ci5).trans ?_
    exact r_cv (dk D257 24 rfl) ow257 c12_183 mf178 (Nat.le_of_ble_eq_true rfl) rfl rfl (Nat.le_of_ble_eq_true rfl) (Nat.le_of_ble_eq_true rfl) ob_46
  · refine (r_aln (dk D257 26 rfl) rfl).trans ?_
    refine (r_iln (dk D257 27 rfl) rfl).trans ?_
    exact r_cv (dk D257 28 rfl) ow257 c12_372 mf256 (Nat.le_of_ble_eq_true rfl) rfl rfl (Nat.le_of_ble_eq_true rfl) (Nat.le_of_ble_eq_true rfl) ob_46
theorem E257_45 {d sl : Nat} {p : Nat → Nat} {I : Nat → Nat → Int32} {J : Nat → Nat → Int64} (l1 : Int32) (l2 : Int32) (s0 : Int32)  : ev d 257 45 [.ref 46, .int l1, .int l2, .retAddr 0] [.int s0] (S sl p I J) = some (some (.int s0), (S sl p I J)) := by
  exact r_ret (dk D257 25 rfl) rt257
theorem E257_51 {d sl : Nat} {p : Nat → Nat} {I : Nat → Nat → Int32} {J : Nat → Nat → Int64} (l1 : Int32) (l2 : Int32) (s0 : Int32)  : ev (d + 1) 257 51 [.ref 46, .int l1, .int l2, .retAddr 0] [.int s0] (S sl p I J) = (if l2 = 0 then ev (d + 1) 257 67 [.ref 46, .int l1, .int l2, .int s0] [.int s0, .ref 46] (S sl p I J) else evK (d + 1) 257 67 [.ref 46, .int l1, .int l2, .int s0] [.ref 46] (den d 231 [.ref 46, .int l1, .int s0] (S sl p I J))) := by
  refine (r_isn (L' := [.ref 46, .int l1, .int l2, .int s0]) (dk D257 29 rfl) (Nat.le_of_ble_eq_true rfl) rfl).trans ?_
  refine (r_aln (dk D257 30 rfl) rfl).trans ?_
  refine (r_iln (dk D257 31 rfl) rfl).trans ?_
  refine (r_ne0 (dk D257 32 rfl) rfl).trans (ite2 ?_ ?_)
  · refine (r_iln (dk D257 33 rfl) rfl).trans ?_
    refine (r_goto (L' := [.ref 46, .int l1, .int l2, .int s0]) (dk D257 34 rfl) rfl nd257_67 rfl).trans ?_
    exact rfl
  · refine (r_aln (dk D257 35 rfl) rfl).trans ?_
    refine (r_iln (dk D257 36 rfl) rfl).trans ?_
    refine (r_iln (dk D257 37 rfl) rfl).trans ?_
    exact r_cv (dk D257 38 rfl) ow257 c12_315 mf231 (Nat.le_of_ble_eq_true rfl) rfl rfl (Nat.le_of_ble_eq_true rfl) (Nat.le_of_ble_eq_true rfl) ob_46
theorem E257_67 {d sl : Nat} {p : Nat → Nat} {I : Nat → Nat → Int32} {J : Nat → Nat → Int64} (l1 : Int32) (l2 : Int32) (l3 : Int32) (s0 : Int32)  : ev (d + 1) 257 67 [.ref 46, .int l1, .int l2, .int l3] [.int s0, .ref 46] (S sl p I J) = evK (d + 1) 257 70 [.ref 46, .int l1, .int l2, .int l3] [] (den d 179 [.ref 46, .int s0] (S sl p I J)) := by
  exact r_cv (dk D257 39 rfl) ow257 c12_193 mf179 (Nat.le_of_ble_eq_true rfl) rfl rfl (Nat.le_of_ble_eq_true rfl) (Nat.le_of_ble_eq_true rfl) ob_46
theorem E257_70 {d sl : Nat} {p : Nat → Nat} {I : Nat → Nat → Int32} {J : Nat → Nat → Int64} (l1 : Int32) (l2 : Int32) (l3 : Int32) (s0 : Int32)  : ev d 257 70 [.ref 46, .int l1, .int l2, .int l3] [.int s0] (S sl p I J) = some (some (.int s0), (S sl p I J)) := by
  exact r_ret (dk D257 40 rfl) rt257
set_option maxRecDepth 20000 in
theorem D258 : dOK 258 [(0, .aload_n 0, 1), (1, .iload_n 1, 1), (2, .iconst (-1), 1), (3, .invokevirtual 238, 3), (6, .aload_n 0, 1), (7, .invokevirtual 241, 3), (10, .ireturn, 1)] = true := by decide +kernel
theorem E258_0 {d sl : Nat} {p : Nat → Nat} {I : Nat → Nat → Int32} {J : Nat → Nat → Int64} (a1 : Int32)  : den (d + 1) 258 [.ref 46, .int a1] (S sl p I J) = evK (d + 1) 258 6 [.ref 46, .int a1] [] (den d 208 [.ref 46, .int a1, .int (-1)] (S sl p I J)) := by
  refine (show den (d + 1) 258 [.ref 46, .int a1] (S sl p I J) = ev (d + 1) 258 0 [.ref 46, .int a1] [] (S sl p I J) from rfl).trans ?_
  refine (r_aln (dk D258 0 rfl) rfl).trans ?_
  refine (r_iln (dk D258 1 rfl) rfl).trans ?_
  refine (r_ic (dk D258 2 rfl) cim1).trans ?_
  exact r_cv (dk D258 3 rfl) ow258 c12_238 mf208 (Nat.le_of_ble_eq_true rfl) rfl rfl (Nat.le_of_ble_eq_true rfl) (Nat.le_of_ble_eq_true rfl) ob_46
theorem E258_6 {d sl : Nat} {p : Nat → Nat} {I : Nat → Nat → Int32} {J : Nat → Nat → Int64} (l1 : Int32)  : ev (d + 1) 258 6 [.ref 46, .int l1] [] (S sl p I J) = evK (d + 1) 258 10 [.ref 46, .int l1] [] (den d 209 [.ref 46] (S sl p I J)) := by
  refine (r_aln (dk D258 4 rfl) rfl).trans ?_
  exact r_cv (dk D258 5 rfl) ow258 c12_241 mf209 (Nat.le_of_ble_eq_true rfl) rfl rfl (Nat.le_of_ble_eq_true rfl) (Nat.le_of_ble_eq_true rfl) ob_46
theorem E258_10 {d sl : Nat} {p : Nat → Nat} {I : Nat → Nat → Int32} {J : Nat → Nat → Int64} (l1 : Int32) (s0 : Int32)  : ev d 258 10 [.ref 46, .int l1] [.int s0] (S sl p I J) = some (some (.int s0), (S sl p I J)) := by
  exact r_ret (dk D258 6 rfl) rt258
set_option maxRecDepth 20000 in
theorem D259 : dOK 259 [(0, .iload_n 1, 1), (1, .iconst 1, 1), (2, .bipush 45, 2), (4, .invokestatic 178, 3), (7, .ifCond .eq 15, 3), (10, .aload_n 0, 1), (11, .aload_n 0, 1), (12, .iload_n 1, 1), (13, .invokevirtual 375, 3), (16, .invokevirtual 193, 3), (19, .goto 8, 3), (22, .aload_n 0, 1), (23, .iconst 1, 1), (24, .invokevirtual 183, 3), (27, .ireturn, 1)] = true := by decide +kernel
theorem E259_0 {d sl : Nat} {p : Nat → Nat} {I : Nat → Nat → Int32} {J : Nat → Nat → Int64} (a1 : Int32)  : den (d + 1) 259 [.ref 46, .int a1] (S sl p I J) = evK (d + 1) 259 7 [.ref 46, .int a1] [] (den d 181 [.int a1, .int 1, .int 45] (S sl p I J)) := by
  refine (show den (d + 1) 259 [.ref 46, .int a1] (S sl p I J) = ev (d + 1) 259 0 [.ref 46, .int a1] [] (S sl p I J) from rfl).trans ?_
  refine (r_iln (dk D259 0 rfl) rfl).trans ?_
  refine (r_ic (dk D259 1 rfl) ci1).trans ?_
  refine (r_bp (dk D259 2 rfl) cb45).trans ?_
  exact r_cs (dk D259 3 rfl) ow259 pn12_178 c12_178 mf181 (Nat.le_of_ble_eq_true rfl) rfl rfl (Nat.le_of_ble_eq_true rfl) (Nat.le_of_ble_eq_true rfl)
theorem E259_7 {d sl : Nat} {p : Nat → Nat} {I : Nat → Nat → Int32} {J : Nat → Nat → Int64} (l1 : Int32) (s0 : Int32)  : ev (d + 1) 259 7 [.ref 46, .int l1] [.int s0] (S sl p I J) = (if s0 = 0 then evK (d + 1) 259 27 [.ref 46, .int l1] [] (den d 178 [.ref 46, .int 1] (S sl p I J)) else evK (d + 1) 259 16 [.ref 46, .int l1] [.ref 46] (den d 258 [.ref 46, .int l1] (S sl p I J))) := by
  refine (r_eq0 (dk D259 4 rfl) rfl).trans (ite2 ?_ ?_)
  · refine (r_aln (dk D259 11 rfl) rfl).trans ?_
    refine (r_ic (dk D259 12 rfl) ci1).trans ?_
    exact r_cv (dk D259 13 rfl) ow259 c12_183 mf178 (Nat.le_of_ble_eq_true rfl) rfl rfl (Nat.le_of_ble_eq_true rfl) (Nat.le_of_ble_eq_true rfl) ob_46
  · refine (r_aln (dk D259 5 rfl) rfl).trans ?_
    refine (r_aln (dk D259 6 rfl) rfl).trans ?_
    refine (r_iln (dk D259 7 rfl) rfl).trans ?_
    exact r_cv (dk D259 8 rfl) ow259 c12_375 mf258 (Nat.le_of_ble_eq_true rfl) rfl rfl (Nat.le_of_ble_eq_true rfl) (Nat.le_of_ble_eq_true rfl) ob_46
theorem E259_16 {d sl : Nat} {p : Nat → Nat} {I : Nat → Nat → Int32} {J : Nat → Nat → Int64} (l1 : Int32) (s0 : Int32)  : ev (d + 1) 259 16 [.ref 46, .int l1] [.int s0, .ref 46] (S sl p I J) = evK (d + 1) 259 19 [.ref 46, .int l1] [] (den d 179 [.ref 46, .int s0] (S sl p I J)) := by
  exact r_cv (dk D259 9 rfl) ow259 c12_193 mf179 (Nat.le_of_ble_eq_true rfl) rfl rfl (Nat.le_of_ble_eq_true rfl) (Nat.le_of_ble_eq_true rfl) ob_46
theorem E259_19 {d sl : Nat} {p : Nat → Nat} {I : Nat → Nat → Int32} {J : Nat → Nat → Int64} (l1 : Int32) (s0 : Int32)  : ev d 259 19 [.ref 46, .int l1] [.int s0] (S sl p I J) = some (some (.int s0), (S sl p I J)) := by
  refine (r_goto (L' := [.ref 46, .int l1]) (dk D259 10 rfl) rfl nd259_27 rfl).trans ?_
  exact r_ret (dk D259 14 rfl) rt259
theorem E259_27 {d sl : Nat} {p : Nat → Nat} {I : Nat → Nat → Int32} {J : Nat → Nat → Int64} (l1 : Int32) (s0 : Int32)  : ev d 259 27 [.ref 46, .int l1] [.int s0] (S sl p I J) = some (some (.int s0), (S sl p I J)) := by
  exact r_ret (dk D259 14 rfl) rt259
set_option maxRecDepth 20000 in
theorem D260 : dOK 260 [(0, .iload_n 1, 1), (1, .ifCond .ge 9, 3), (4, .aload_n 0, 1), (5, .iconst 1, 1), (6, .invokevirtual 183, 3), (9, .ireturn, 1), (10, .iconst 1, 1), (11, .istore_n 2, 1), (12, .iload_n 2, 1), (13, .bipush 45, 2), (15, .if_icmp .gt 24, 3), (18, .aload_n 0, 1), (19, .iload_n 2, 1), (20, .invokevirtual 375, 3), (23, .iload_n 1, 1), (24, .if_icmp .ne 9, 3), (27, .aload_n 0, 1), (28, .iload_n 2, 1), (29, .invokevirtual 193, 3), (32, .ireturn, 1), (33, .iinc 2 1, 3), (36, .goto (-24), 3), (39, .aload_n 0, 1), (40, .iconst 5, 1), (41, .invokevirtual 183, 3), (44, .ireturn, 1)] = true := by decide +kernel
theorem E260_0 {d sl : Nat} {p : Nat → Nat} {I : Nat → Nat → Int32} {J : Nat → Nat → Int64} (a1 : Int32)  : den (d + 1) 260 [.ref 46, .int a1] (S sl p I J) = (if a1 < 0 then evK (d + 1) 260 9 [.ref 46, .int a1, .retAddr 0] [] (den d 178 [.ref 46, .int 1] (S sl p I J)) else ev (d + 1) 260 12 [.ref 46, .int a1, .int 1] [] (S sl p I J)) := by
  refine (show den (d + 1) 260 [.ref 46, .int a1] (S sl p I J) = ev (d + 1) 260 0 [.ref 46, .int a1, .retAddr 0] [] (S sl p I J) from rfl).trans ?_
  refine (r_iln (dk D260 0 rfl) rfl).trans ?_
  refine (r_ge0 (dk D260 1 rfl) rfl).trans (ite2 ?_ ?_)
  · refine (r_aln (dk D260 2 rfl) rfl).trans ?_
    refine (r_ic (dk D260 3 rfl) ci1).trans ?_
    exact r_cv (dk D260 4 rfl) ow260 c12_183 mf178 (Nat.le_of_ble_eq_true rfl) rfl rfl (Nat.le_of_ble_eq_true rfl) (Nat.le_of_ble_eq_true rfl) ob_46
  · refine (r_ic (dk D260 6 rfl) ci1).trans ?_
    refine (r_isn (L' := [.ref 46, .int a1, .int 1]) (dk D260 7 rfl) (Nat.le_of_ble_eq_true rfl) rfl).trans ?_
    exact rfl
theorem E260_9 {d sl : Nat} {p : Nat → Nat} {I : Nat → Nat → Int32} {J : Nat → Nat → Int64} (l1 : Int32) (s0 : Int32)  : ev d 260 9 [.ref 46, .int l1, .retAddr 0] [.int s0] (S sl p I J) = some (some (.int s0), (S sl p I J)) := by
  exact r_ret (dk D260 5 rfl) rt260
theorem E260_12 {d sl : Nat} {p : Nat → Nat} {I : Nat → Nat → Int32} {J : Nat → Nat → Int64} (l1 : Int32) (l2 : Int32)  : ev (d + 1) 260 12 [.ref 46, .int l1, .int l2] [] (S sl p I J) = (if l2 ≤ 45 then evK (d + 1) 260 23 [.ref 46, .int l1, .int l2] [] (den d 258 [.ref 46, .int l2] (S sl p I J)) else evK (d + 1) 260 44 [.ref 46, .int l1, .int l2] [] (den d 178 [.ref 46, .int 5] (S sl p I J))) := by
  refine (r_iln (dk D260 8 rfl) rfl).trans ?_
  refine (r_bp (dk D260 9 rfl) cb45).trans ?_
  refine (r_gt (dk D260 10 rfl) rfl).trans (ite2 ?_ ?_)
  · refine (r_aln (dk D260 11 rfl) rfl).trans ?_
    refine (r_iln (dk D260 12 rfl) rfl).trans ?_
    exact r_cv (dk D260 13 rfl) ow260 c12_375 mf258 (Nat.le_of_ble_eq_true rfl) rfl rfl (Nat.le_of_ble_eq_true rfl) (Nat.le_of_ble_eq_true rfl) ob_46
  · refine (r_aln (dk D260 22 rfl) rfl).trans ?_
    refine (r_ic (dk D260 23 rfl) ci5).trans ?_
    exact r_cv (dk D260 24 rfl) ow260 c12_183 mf178 (Nat.le_of_ble_eq_true rfl) rfl rfl (Nat.le_of_ble_eq_true rfl) (Nat.le_of_ble_eq_true rfl) ob_46
theorem E260_23 {d sl : Nat} {p : Nat → Nat} {I : Nat → Nat → Int32} {J : Nat → Nat → Int64} (l1 : Int32) (l2 : Int32) (s0 : Int32)  : ev (d + 1) 260 23 [.ref 46, .int l1, .int l2] [.int s0] (S sl p I J) = (if s0 = l1 then evK (d + 1) 260 32 [.ref 46, .int l1, .int l2] [] (den d 179 [.ref 46, .int l2] (S sl p I J)) else ev (d + 1) 260 12 [.ref 46, .int l1, .int (l2 + 1)] [] (S sl p I J)) := by
  refine (r_iln (dk D260 14 rfl) rfl).trans ?_
  refine (r_ne (dk D260 15 rfl) rfl).trans (ite2 ?_ ?_)
  · refine (r_aln (dk D260 16 rfl) rfl).trans ?_
    refine (r_iln (dk D260 17 rfl) rfl).trans ?_
    exact r_cv (dk D260 18 rfl) ow260 c12_193 mf179 (Nat.le_of_ble_eq_true rfl) rfl rfl (Nat.le_of_ble_eq_true rfl) (Nat.le_of_ble_eq_true rfl) ob_46
  · refine (r_inc (L' := [.ref 46, .int l1, .int (l2 + 1)]) (dk D260 20 rfl) rfl rfl ci1 (Nat.le_of_ble_eq_true rfl) rfl).trans ?_
    refine (r_goto (L' := [.ref 46, .int l1, .int (l2 + 1)]) (dk D260 21 rfl) rfl nd260_12 rfl).trans ?_
    exact rfl
theorem E260_32 {d sl : Nat} {p : Nat → Nat} {I : Nat → Nat → Int32} {J : Nat → Nat → Int64} (l1 : Int32) (l2 : Int32) (s0 : Int32)  : ev d 260 32 [.ref 46, .int l1, .int l2] [.int s0] (S sl p I J) = some (some (.int s0), (S sl p I J)) := by
  exact r_ret (dk D260 19 rfl) rt260
theorem E260_44 {d sl : Nat} {p : Nat → Nat} {I : Nat → Nat → Int32} {J : Nat → Nat → Int64} (l1 : Int32) (l2 : Int32) (s0 : Int32)  : ev d 260 44 [.ref 46, .int l1, .int l2] [.int s0] (S sl p I J) = some (some (.int s0), (S sl p I J)) := by
  exact r_ret (dk D260 25 rfl) rt260
set_option maxRecDepth 20000 in
theorem D261 : dOK 261 [(0, .iconst 0, 1), (1, .istore_n 2, 1), (2, .iconst 0, 1), (3, .istore_n 3, 1), (4, .iload_n 3, 1), (5, .aload_n 0, 1), (6, .getfield 196, 3), (9, .if_icmp .ge 76, 3), (12, .aload_n 0, 1), (13, .getfield 244, 3), (16, .ifCond .ne 7, 3), (19, .iconst (-1), 1), (20, .goto 8, 3), (23, .aload_n 0, 1), (24, .iload_n 3, 1), (25, .invokevirtual 372, 3), (28, .istore 4, 2), (30, .iload 4, 2), (32, .iconst (-1), 1), (33, .if_icmp .eq 17, 3), (36, .aload_n 0, 1), (37, .iload_n 3, 1), (38, .iload 4, 2), (40, .invokevirtual 315, 3), (43, .iload_n 1, 1), (44, .if_icmp .le 6, 3), (47, .iconst (-1), 1), (48, .istore 4, 2), (50, .iload_n 2, 1), (51, .ifCond .ne 14, 3), (54, .iload 4, 2), (56, .aload_n 0, 1), (57, .getfield 89, 3), (60, .iload_n 3, 1), (61, .iaload, 1), (62, .if_icmp .eq 7, 3), (65, .iconst 1, 1), (66, .goto 4, 3), (69, .iconst 0, 1), (70, .istore_n 2, 1), (71, .aload_n 0, 1), (72, .getfield 89, 3), (75, .iload_n 3, 1), (76, .iload 4, 2), (78, .iastore, 1), (79, .iinc 3 1, 3), (82, .goto (-78), 3), (85, .iconst 0, 1), (86, .istore_n 3, 1), (87, .iload_n 3, 1), (88, .aload_n 0, 1), (89, .getfield 244, 3), (92, .if_icmp .ge 79, 3), (95, .aload_n 0, 1), (96, .aload_n 0, 1), (97, .getfield 89, 3), (100, .iload_n 3, 1), (101, .aload_n 0, 1), (102, .getfield 80, 3), (105, .iload_n 3, 1), (106, .iaload, 1), (107, .i2l, 1), (108, .aload_n 0, 1), (109, .getfield 83, 3), (112, .iload_n 3, 1), (113, .iaload, 1), (114, .i2l, 1), (115, .aload_n 0, 1), (116, .getfield 86, 3), (119, .iload_n 3, 1), (120, .iaload, 1), (121, .i2l, 1), (122, .invokevirtual 279, 3), (125, .aload_n 0, 1), (126, .invokevirtual 287, 3), (129, .ifCond .ne 6, 3), (132, .goto 33, 3), (135, .aload_n 0, 1), (136, .getfield 80, 3), (139, .iload_n 3, 1), (140, .aload_n 0, 1), (141, .getfield 127, 3), (144, .iastore, 1), (145, .aload_n 0, 1), (146, .getfield 83, 3), (149, .iload_n 3, 1), (150, .aload_n 0, 1), (151, .getfield 130, 3), (154, .iastore, 1), (155, .aload_n 0, 1), (156, .getfield 86, 3), (159, .iload_n 3, 1), (160, .aload_n 0, 1), (161, .getfield 133, 3), (164, .iastore, 1), (165, .iinc 3 1, 3), (168, .goto (-81), 3), (171, .iload_n 2, 1), (172, .ireturn, 1)] = true := by decide +kernel
theorem E261_0 {d sl : Nat} {p : Nat → Nat} {I : Nat → Nat → Int32} {J : Nat → Nat → Int64} (a1 : Int32)  : den d 261 [.ref 46, .int a1] (S sl p I J) = ev d 261 4 [.ref 46, .int a1, .int 0, .int 0, .retAddr 0] [] (S sl p I J) := by
  refine (show den d 261 [.ref 46, .int a1] (S sl p I J) = ev d 261 0 [.ref 46, .int a1, .retAddr 0, .retAddr 0, .retAddr 0] [] (S sl p I J) from rfl).trans ?_
  refine (r_ic (dk D261 0 rfl) ci0).trans ?_
  refine (r_isn (L' := [.ref 46, .int a1, .int 0, .retAddr 0, .retAddr 0]) (dk D261 1 rfl) (Nat.le_of_ble_eq_true rfl) rfl).trans ?_
  refine (r_ic (dk D261 2 rfl) ci0).trans ?_
  refine (r_isn (L' := [.ref 46, .int a1, .int 0, .int 0, .retAddr 0]) (dk D261 3 rfl) (Nat.le_of_ble_eq_true rfl) rfl).trans ?_
  exact rfl
theorem E261_4 {d sl : Nat} {p : Nat → Nat} {I : Nat → Nat → Int32} {J : Nat → Nat → Int64} (l1 : Int32) (l2 : Int32) (l3 : Int32)  : ev (d + 1) 261 4 [.ref 46, .int l1, .int l2, .int l3, .retAddr 0] [] (S sl p I J) = (if l3 < (I 46 2) then (if (I 46 31) = 0 then ev (d + 1) 261 28 [.ref 46, .int l1, .int l2, .int l3, .retAddr 0] [.int (-1)] (S sl p I J) else evK (d + 1) 261 28 [.ref 46, .int l1, .int l2, .int l3, .retAddr 0] [] (den d 256 [.ref 46, .int l3] (S sl p I J))) else ev (d + 1) 261 87 [.ref 46, .int l1, .int l2, .int 0, .retAddr 0] [] (S sl p I J)) := by
  refine (r_iln (dk D261 4 rfl) rfl).trans ?_
  refine (r_aln (dk D261 5 rfl) rfl).trans ?_
  refine (r_getI (dk D261 6 rfl) ow261 q12_196 ob_46).trans ?_
  refine (r_ge (dk D261 7 rfl) rfl).trans (ite2 ?_ ?_)
  · refine (r_aln (dk D261 8 rfl) rfl).trans ?_
    refine (r_getI (dk D261 9 rfl) ow261 q12_244 ob_46).trans ?_
    refine (r_ne0 (dk D261 10 rfl) rfl).trans (ite2 ?_ ?_)
    · refine (r_ic (dk D261 11 rfl) cim1).trans ?_
      refine (r_goto (L' := [.ref 46, .int l1, .int l2, .int l3, .retAddr 0]) (dk D261 12 rfl) rfl nd261_28 rfl).trans ?_
      exact rfl
    · refine (r_aln (dk D261 13 rfl) rfl).trans ?_
      refine (r_iln (dk D261 14 rfl) rfl).trans ?_
      exact r_cv (dk D261 15 rfl) ow261 c12_372 mf256 (Nat.le_of_ble_eq_true rfl) rfl rfl (Nat.le_of_ble_eq_true rfl) (Nat.le_of_ble_eq_true rfl) ob_46
  · refine (r_ic (dk D261 47 rfl) ci0).trans ?_
    refine (r_isn (L' := [.ref 46, .int l1, .int l2, .int 0, .retAddr 0]) (dk D261 48 rfl) (Nat.le_of_ble_eq_true rfl) rfl).trans ?_
    exact rfl
theorem E261_28 {d sl : Nat} {p : Nat → Nat} {I : Nat → Nat → Int32} {J : Nat → Nat → Int64} (l1 : Int32) (l2 : Int32) (l3 : Int32) (s0 : Int32)  : ev (d + 1) 261 28 [.ref 46, .int l1, .int l2, .int l3, .retAddr 0] [.int s0] (S sl p I J) = (if s0 = (-1) then ev (d + 1) 261 50 [.ref 46, .int l1, .int l2, .int l3, .int s0] [] (S sl p I J) else evK (d + 1) 261 43 [.ref 46, .int l1, .int l2, .int l3, .int s0] [] (den d 231 [.ref 46, .int l3, .int s0] (S sl p I J))) := by
  refine (r_is (L' := [.ref 46, .int l1, .int l2, .int l3, .int s0]) (dk D261 16 rfl) (Nat.le_of_ble_eq_true rfl) rfl).trans ?_
  refine (r_il (dk D261 17 rfl) rfl).trans ?_
  refine (r_ic (dk D261 18 rfl) cim1).trans ?_
  refine (r_eq (dk D261 19 rfl) rfl).trans (ite2 ?_ ?_)
  · exact rfl
  · refine (r_aln (dk D261 20 rfl) rfl).trans ?_
    refine (r_iln (dk D261 21 rfl) rfl).trans ?_
    refine (r_il (dk D261 22 rfl) rfl).trans ?_
    exact r_cv (dk D261 23 rfl) ow261 c12_315 mf231 (Nat.le_of_ble_eq_true rfl) rfl rfl (Nat.le_of_ble_eq_true rfl) (Nat.le_of_ble_eq_true rfl) ob_46
theorem E261_43 {d sl : Nat} {p : Nat → Nat} {I : Nat → Nat → Int32} {J : Nat → Nat → Int64} (l1 : Int32) (l2 : Int32) (l3 : Int32) (l4 : Int32) (s0 : Int32)  : ev d 261 43 [.ref 46, .int l1, .int l2, .int l3, .int l4] [.int s0] (S sl p I J) = (if s0 ≤ l1 then ev d 261 50 [.ref 46, .int l1, .int l2, .int l3, .int l4] [] (S sl p I J) else ev d 261 50 [.ref 46, .int l1, .int l2, .int l3, .int (-1)] [] (S sl p I J)) := by
  refine (r_iln (dk D261 24 rfl) rfl).trans ?_
  refine (r_le (dk D261 25 rfl) rfl).trans (ite2 ?_ ?_)
  · exact rfl
  · refine (r_ic (dk D261 26 rfl) cim1).trans ?_
    refine (r_is (L' := [.ref 46, .int l1, .int l2, .int l3, .int (-1)]) (dk D261 27 rfl) (Nat.le_of_ble_eq_true rfl) rfl).trans ?_
    exact rfl
theorem E261_50 {d sl : Nat} {p : Nat → Nat} {I : Nat → Nat → Int32} {J : Nat → Nat → Int64} (l1 : Int32) (l2 : Int32) (l3 : Int32) (l4 : Int32)  : ev d 261 50 [.ref 46, .int l1, .int l2, .int l3, .int l4] [] (S sl p I J) = (if l2 = 0 then ck (ixb 60 l3) ((if l4 = (I 67 (Int32.toNatClampNeg l3)) then ck (ixb 60 l3) (ev d 261 4 [.ref 46, .int l1, .int 0, .int (l3 + 1), .retAddr 0] [] (S sl p (up2 I 67 (Int32.toNatClampNeg l3) l4) J)) else ck (ixb 60 l3) (ev d 261 4 [.ref 46, .int l1, .int 1, .int (l3 + 1), .retAddr 0] [] (S sl p (up2 I 67 (Int32.toNatClampNeg l3) l4) J)))) else ck (ixb 60 l3) (ev d 261 4 [.ref 46, .int l1, .int 1, .int (l3 + 1), .retAddr 0] [] (S sl p (up2 I 67 (Int32.toNatClampNeg l3) l4) J))) := by
  refine (r_iln (dk D261 28 rfl) rfl).trans ?_
  refine (r_ne0 (dk D261 29 rfl) rfl).trans (ite2 ?_ ?_)
  · refine (r_il (dk D261 30 rfl) rfl).trans ?_
    refine (r_aln (dk D261 31 rfl) rfl).trans ?_
    refine (r_getR (dk D261 32 rfl) ow261 q12_89 ob_46 rfl).trans ?_
    refine (r_iln (dk D261 33 rfl) rfl).trans ?_
    refine (r_ild (dk D261 34 rfl) ar_67).trans (ck3 fun g1 => ?_)
    refine (r_eq (dk D261 35 rfl) rfl).trans (ite2 ?_ ?_)
    · refine (r_ic (dk D261 38 rfl) ci0).trans ?_
      refine (r_isn (L' := [.ref 46, .int l1, .int 0, .int l3, .int l4]) (dk D261 39 rfl) (Nat.le_of_ble_eq_true rfl) rfl).trans ?_
      refine (r_aln (dk D261 40 rfl) rfl).trans ?_
      refine (r_getR (dk D261 41 rfl) ow261 q12_89 ob_46 rfl).trans ?_
      refine (r_iln (dk D261 42 rfl) rfl).trans ?_
      refine (r_il (dk D261 43 rfl) rfl).trans ?_
      refine (r_ist (dk D261 44 rfl) ar_67).trans (ck3 fun g2 => ?_)
      refine (r_inc (L' := [.ref 46, .int l1, .int 0, .int (l3 + 1), .int l4]) (dk D261 45 rfl) rfl rfl ci1 (Nat.le_of_ble_eq_true rfl) rfl).trans ?_
      refine (r_goto (L' := [.ref 46, .int l1, .int 0, .int (l3 + 1), .retAddr 0]) (dk D261 46 rfl) rfl nd261_4 rfl).trans ?_
      exact rfl
    · refine (r_ic (dk D261 36 rfl) ci1).trans ?_
      refine (r_goto (L' := [.ref 46, .int l1, .int l2, .int l3, .int l4]) (dk D261 37 rfl) rfl nd261_70 rfl).trans ?_
      refine (r_isn (L' := [.ref 46, .int l1, .int 1, .int l3, .int l4]) (dk D261 39 rfl) (Nat.le_of_ble_eq_true rfl) rfl).trans ?_
      refine (r_aln (dk D261 40 rfl) rfl).trans ?_
      refine (r_getR (dk D261 41 rfl) ow261 q12_89 ob_46 rfl).trans ?_
      refine (r_iln (dk D261 42 rfl) rfl).trans ?_
      refine (r_il (dk D261 43 rfl) rfl).trans ?_
      refine (r_ist (dk D261 44 rfl) ar_67).trans (ck3 fun g3 => ?_)
      refine (r_inc (L' := [.ref 46, .int l1, .int 1, .int (l3 + 1), .int l4]) (dk D261 45 rfl) rfl rfl ci1 (Nat.le_of_ble_eq_true rfl) rfl).trans ?_
      refine (r_goto (L' := [.ref 46, .int l1, .int 1, .int (l3 + 1), .retAddr 0]) (dk D261 46 rfl) rfl nd261_4 rfl).trans ?_
      exact rfl
  · refine (r_ic (dk D261 36 rfl) ci1).trans ?_
    refine (r_goto (L' := [.ref 46, .int l1, .int l2, .int l3, .int l4]) (dk D261 37 rfl) rfl nd261_70 rfl).trans ?_
    refine (r_isn (L' := [.ref 46, .int l1, .int 1, .int l3, .int l4]) (dk D261 39 rfl) (Nat.le_of_ble_eq_true rfl) rfl).trans ?_
    refine (r_aln (dk D261 40 rfl) rfl).trans ?_
    refine (r_getR (dk D261 41 rfl) ow261 q12_89 ob_46 rfl).trans ?_
    refine (r_iln (dk D261 42 rfl) rfl).trans ?_
    refine (r_il (dk D261 43 rfl) rfl).trans ?_
    refine (r_ist (dk D261 44 rfl) ar_67).trans (ck3 fun g4 => ?_)
    refine (r_inc (L' := [.ref 46, .int l1, .int 1, .int (l3 + 1), .int l4]) (dk D261 45 rfl) rfl rfl ci1 (Nat.le_of_ble_eq_true rfl) rfl).trans ?_
    refine (r_goto (L' := [.ref 46, .int l1, .int 1, .int (l3 + 1), .retAddr 0]) (dk D261 46 rfl) rfl nd261_4 rfl).trans ?_
    exact rfl
theorem E261_87 {d sl : Nat} {p : Nat → Nat} {I : Nat → Nat → Int32} {J : Nat → Nat → Int64} (l1 : Int32) (l2 : Int32) (l3 : Int32)  : ev (d + 1) 261 87 [.ref 46, .int l1, .int l2, .int l3, .retAddr 0] [] (S sl p I J) = (if l3 < (I 46 31) then ck (ixb 30 l3) (ck (ixb 30 l3) (ck (ixb 30 l3) (evK (d + 1) 261 125 [.ref 46, .int l1, .int l2, .int l3, .retAddr 0] [] (den d 216 [.ref 46, .ref 67, .int l3, .long (Int32.toInt64 (I 64 (Int32.toNatClampNeg l3))), .long (Int32.toInt64 (I 65 (Int32.toNatClampNeg l3))), .long (Int32.toInt64 (I 66 (Int32.toNatClampNeg l3)))] (S sl p I J))))) else ck (decide (l2 = 0 ∨ l2 = 1)) (some (some (.int l2), (S sl p I J)))) := by
  refine (r_iln (dk D261 49 rfl) rfl).trans ?_
  refine (r_aln (dk D261 50 rfl) rfl).trans ?_
  refine (r_getI (dk D261 51 rfl) ow261 q12_244 ob_46).trans ?_
  refine (r_ge (dk D261 52 rfl) rfl).trans (ite2 ?_ ?_)
  · refine (r_aln (dk D261 53 rfl) rfl).trans ?_
    refine (r_aln (dk D261 54 rfl) rfl).trans ?_
    refine (r_getR (dk D261 55 rfl) ow261 q12_89 ob_46 rfl).trans ?_
    refine (r_iln (dk D261 56 rfl) rfl).trans ?_
    refine (r_aln (dk D261 57 rfl) rfl).trans ?_
    refine (r_getR (dk D261 58 rfl) ow261 q12_80 ob_46 rfl).trans ?_
    refine (r_iln (dk D261 59 rfl) rfl).trans ?_
    refine (r_ild (dk D261 60 rfl) ar_64).trans (ck3 fun g1 => ?_)
    refine (r_i2l (dk D261 61 rfl)).trans ?_
    refine (r_aln (dk D261 62 rfl) rfl).trans ?_
    refine (r_getR (dk D261 63 rfl) ow261 q12_83 ob_46 rfl).trans ?_
    refine (r_iln (dk D261 64 rfl) rfl).trans ?_
    refine (r_ild (dk D261 65 rfl) ar_65).trans (ck3 fun g2 => ?_)
    refine (r_i2l (dk D261 66 rfl)).trans ?_
    refine (r_aln (dk D261 67 rfl) rfl).trans ?_
    refine (r_getR (dk D261 68 rfl) ow261 q12_86 ob_46 rfl).trans ?_
    refine (r_iln (dk D261 69 rfl) rfl).trans ?_
    refine (r_ild (dk D261 70 rfl) ar_66).trans (ck3 fun g3 => ?_)
    refine (r_i2l (dk D261 71 rfl)).trans ?_
    exact r_cv (dk D261 72 rfl) ow261 c12_279 mf216 (Nat.le_of_ble_eq_true rfl) rfl rfl (Nat.le_of_ble_eq_true rfl) (Nat.le_of_ble_eq_true rfl) ob_46
  · refine (r_iln (dk D261 97 rfl) rfl).trans ?_
    exact r_rezc (dk D261 98 rfl) rt261
theorem E261_125 {d sl : Nat} {p : Nat → Nat} {I : Nat → Nat → Int32} {J : Nat → Nat → Int64} (l1 : Int32) (l2 : Int32) (l3 : Int32)  : ev (d + 1) 261 125 [.ref 46, .int l1, .int l2, .int l3, .retAddr 0] [] (S sl p I J) = evK (d + 1) 261 129 [.ref 46, .int l1, .int l2, .int l3, .retAddr 0] [] (den d 217 [.ref 46] (S sl p I J)) := by
  refine (r_aln (dk D261 73 rfl) rfl).trans ?_
  exact r_cv (dk D261 74 rfl) ow261 c12_287 mf217 (Nat.le_of_ble_eq_true rfl) rfl rfl (Nat.le_of_ble_eq_true rfl) (Nat.le_of_ble_eq_true rfl) ob_46
theorem E261_129 {d sl : Nat} {p : Nat → Nat} {I : Nat → Nat → Int32} {J : Nat → Nat → Int64} (l1 : Int32) (l2 : Int32) (l3 : Int32) (s0 : Int32)  : ev d 261 129 [.ref 46, .int l1, .int l2, .int l3, .retAddr 0] [.int s0] (S sl p I J) = (if s0 = 0 then ev d 261 87 [.ref 46, .int l1, .int l2, .int (l3 + 1), .retAddr 0] [] (S sl p I J) else ck (ixb 30 l3) (ck (ixb 30 l3) (ck (ixb 30 l3) (ev d 261 87 [.ref 46, .int l1, .int l2, .int (l3 + 1), .retAddr 0] [] (S sl p (up2 (up2 (up2 I 64 (Int32.toNatClampNeg l3) (I 46 23)) 65 (Int32.toNatClampNeg l3) ((up2 I 64 (Int32.toNatClampNeg l3) (I 46 23)) 46 24)) 66 (Int32.toNatClampNeg l3) ((up2 (up2 I 64 (Int32.toNatClampNeg l3) (I 46 23)) 65 (Int32.toNatClampNeg l3) ((up2 I 64 (Int32.toNatClampNeg l3) (I 46 23)) 46 24)) 46 25)) J))))) := by
  refine (r_ne0 (dk D261 75 rfl) rfl).trans (ite2 ?_ ?_)
  · refine (r_goto (L' := [.ref 46, .int l1, .int l2, .int l3, .retAddr 0]) (dk D261 76 rfl) rfl nd261_165 rfl).trans ?_
    refine (r_inc (L' := [.ref 46, .int l1, .int l2, .int (l3 + 1), .retAddr 0]) (dk D261 95 rfl) rfl rfl ci1 (Nat.le_of_ble_eq_true rfl) rfl).trans ?_
    refine (r_goto (L' := [.ref 46, .int l1, .int l2, .int (l3 + 1), .retAddr 0]) (dk D261 96 rfl) rfl nd261_87 rfl).trans ?_
    exact rfl
  · refine (r_aln (dk D261 77 rfl) rfl).trans ?_
    refine (r_getR (dk D261 78 rfl) ow261 q12_80 ob_46 rfl).trans ?_
    refine (r_iln (dk D261 79 rfl) rfl).trans ?_
    refine (r_aln (dk D261 80 rfl) rfl).trans ?_
    refine (r_getI (dk D261 81 rfl) ow261 q12_127 ob_46).trans ?_
    refine (r_ist (dk D261 82 rfl) ar_64).trans (ck3 fun g1 => ?_)
    refine (r_aln (dk D261 83 rfl) rfl).trans ?_
    refine (r_getR (dk D261 84 rfl) ow261 q12_83 ob_46 rfl).trans ?_
    refine (r_iln (dk D261 85 rfl) rfl).trans ?_
    refine (r_aln (dk D261 86 rfl) rfl).trans ?_
    refine (r_getI (dk D261 87 rfl) ow261 q12_130 ob_46).trans ?_
    refine (r_ist (dk D261 88 rfl) ar_65).trans (ck3 fun g2 => ?_)
    refine (r_aln (dk D261 89 rfl) rfl).trans ?_
    refine (r_getR (dk D261 90 rfl) ow261 q12_86 ob_46 rfl).trans ?_
    refine (r_iln (dk D261 91 rfl) rfl).trans ?_
    refine (r_aln (dk D261 92 rfl) rfl).trans ?_
    refine (r_getI (dk D261 93 rfl) ow261 q12_133 ob_46).trans ?_
    refine (r_ist (dk D261 94 rfl) ar_66).trans (ck3 fun g3 => ?_)
    refine (r_inc (L' := [.ref 46, .int l1, .int l2, .int (l3 + 1), .retAddr 0]) (dk D261 95 rfl) rfl rfl ci1 (Nat.le_of_ble_eq_true rfl) rfl).trans ?_
    refine (r_goto (L' := [.ref 46, .int l1, .int l2, .int (l3 + 1), .retAddr 0]) (dk D261 96 rfl) rfl nd261_87 rfl).trans ?_
    exact rfl
set_option maxRecDepth 20000 in
theorem D262 : dOK 262 [(0, .aload_n 0, 1), (1, .invokevirtual 339, 3), (4, .iconst 0, 1), (5, .istore_n 2, 1), (6, .iload_n 2, 1), (7, .aload_n 0, 1), (8, .getfield 196, 3), (11, .if_icmp .ge 21, 3), (14, .aload_n 0, 1), (15, .getfield 89, 3), (18, .iload_n 2, 1), (19, .aload_n 0, 1), (20, .getfield 71, 3), (23, .iload_n 2, 1), (24, .iaload, 1), (25, .iastore, 1), (26, .iinc 2 1, 3), (29, .goto (-23), 3), (32, .aload_n 0, 1), (33, .iconst 0, 1), (34, .putfield 378, 3), (37, .iconst 1, 1), (38, .istore_n 2, 1), (39, .iload_n 2, 1), (40, .ifCond .eq 31, 3), (43, .aload_n 0, 1), (44, .getfield 378, 3), (47, .bipush 12, 2), (49, .if_icmp .ge 22, 3), (52, .aload_n 0, 1), (53, .iload_n 1, 1), (54, .invokevirtual 381, 3), (57, .istore_n 2, 1), (58, .aload_n 0, 1), (59, .dup, 1), (60, .getfield 378, 3), (63, .iconst 1, 1), (64, .iadd, 1), (65, .putfield 378, 3), (68, .goto (-29), 3), (71, .return_, 1)] = true := by decide +kernel
theorem E262_0 {d sl : Nat} {p : Nat → Nat} {I : Nat → Nat → Int32} {J : Nat → Nat → Int64} (a1 : Int32)  : den (d + 1) 262 [.ref 46, .int a1] (S sl p I J) = evK (d + 1) 262 4 [.ref 46, .int a1, .retAddr 0] [] (den d 221 [.ref 46] (S sl p I J)) := by
  refine (show den (d + 1) 262 [.ref 46, .int a1] (S sl p I J) = ev (d + 1) 262 0 [.ref 46, .int a1, .retAddr 0] [] (S sl p I J) from rfl).trans ?_
  refine (r_aln (dk D262 0 rfl) rfl).trans ?_
  exact r_cv (dk D262 1 rfl) ow262 c12_339 mf221 (Nat.le_of_ble_eq_true rfl) rfl rfl (Nat.le_of_ble_eq_true rfl) (Nat.le_of_ble_eq_true rfl) ob_46
theorem E262_4 {d sl : Nat} {p : Nat → Nat} {I : Nat → Nat → Int32} {J : Nat → Nat → Int64} (l1 : Int32)  : ev d 262 4 [.ref 46, .int l1, .retAddr 0] [] (S sl p I J) = ev d 262 6 [.ref 46, .int l1, .int 0] [] (S sl p I J) := by
  refine (r_ic (dk D262 2 rfl) ci0).trans ?_
  refine (r_isn (L' := [.ref 46, .int l1, .int 0]) (dk D262 3 rfl) (Nat.le_of_ble_eq_true rfl) rfl).trans ?_
  exact rfl
theorem E262_6 {d sl : Nat} {p : Nat → Nat} {I : Nat → Nat → Int32} {J : Nat → Nat → Int64} (l1 : Int32) (l2 : Int32)  : ev d 262 6 [.ref 46, .int l1, .int l2] [] (S sl p I J) = (if l2 < (I 46 2) then ck (ixb 60 l2) (ck (ixb 60 l2) (ev d 262 6 [.ref 46, .int l1, .int (l2 + 1)] [] (S sl p (up2 I 67 (Int32.toNatClampNeg l2) (I 61 (Int32.toNatClampNeg l2))) J))) else ev d 262 39 [.ref 46, .int l1, .int 1] [] (S sl p (up2 I 46 40 0) J)) := by
  refine (r_iln (dk D262 4 rfl) rfl).trans ?_
  refine (r_aln (dk D262 5 rfl) rfl).trans ?_
  refine (r_getI (dk D262 6 rfl) ow262 q12_196 ob_46).trans ?_
  refine (r_ge (dk D262 7 rfl) rfl).trans (ite2 ?_ ?_)
  · refine (r_aln (dk D262 8 rfl) rfl).trans ?_
    refine (r_getR (dk D262 9 rfl) ow262 q12_89 ob_46 rfl).trans ?_
    refine (r_iln (dk D262 10 rfl) rfl).trans ?_
    refine (r_aln (dk D262 11 rfl) rfl).trans ?_
    refine (r_getR (dk D262 12 rfl) ow262 q12_71 ob_46 rfl).trans ?_
    refine (r_iln (dk D262 13 rfl) rfl).trans ?_
    refine (r_ild (dk D262 14 rfl) ar_61).trans (ck3 fun g1 => ?_)
    refine (r_ist (dk D262 15 rfl) ar_67).trans (ck3 fun g2 => ?_)
    refine (r_inc (L' := [.ref 46, .int l1, .int (l2 + 1)]) (dk D262 16 rfl) rfl rfl ci1 (Nat.le_of_ble_eq_true rfl) rfl).trans ?_
    refine (r_goto (L' := [.ref 46, .int l1, .int (l2 + 1)]) (dk D262 17 rfl) rfl nd262_6 rfl).trans ?_
    exact rfl
  · refine (r_aln (dk D262 18 rfl) rfl).trans ?_
    refine (r_ic (dk D262 19 rfl) ci0).trans ?_
    refine (r_putI (dk D262 20 rfl) ow262 w12_378 ob_46).trans ?_
    refine (r_ic (dk D262 21 rfl) ci1).trans ?_
    refine (r_isn (L' := [.ref 46, .int l1, .int 1]) (dk D262 22 rfl) (Nat.le_of_ble_eq_true rfl) rfl).trans ?_
    exact rfl
theorem E262_39 {d sl : Nat} {p : Nat → Nat} {I : Nat → Nat → Int32} {J : Nat → Nat → Int64} (l1 : Int32) (l2 : Int32)  : ev (d + 1) 262 39 [.ref 46, .int l1, .int l2] [] (S sl p I J) = (if l2 = 0 then some (none, (S sl p I J)) else (if (I 46 40) < 12 then evK (d + 1) 262 57 [.ref 46, .int l1, .int l2] [] (den d 261 [.ref 46, .int l1] (S sl p I J)) else some (none, (S sl p I J)))) := by
  refine (r_iln (dk D262 23 rfl) rfl).trans ?_
  refine (r_eq0 (dk D262 24 rfl) rfl).trans (ite2 ?_ ?_)
  · exact r_rev (dk D262 40 rfl) rt262
  · refine (r_aln (dk D262 25 rfl) rfl).trans ?_
    refine (r_getI (dk D262 26 rfl) ow262 q12_378 ob_46).trans ?_
    refine (r_bp (dk D262 27 rfl) cb12).trans ?_
    refine (r_ge (dk D262 28 rfl) rfl).trans (ite2 ?_ ?_)
    · refine (r_aln (dk D262 29 rfl) rfl).trans ?_
      refine (r_iln (dk D262 30 rfl) rfl).trans ?_
      exact r_cv (dk D262 31 rfl) ow262 c12_381 mf261 (Nat.le_of_ble_eq_true rfl) rfl rfl (Nat.le_of_ble_eq_true rfl) (Nat.le_of_ble_eq_true rfl) ob_46
    · exact r_rev (dk D262 40 rfl) rt262
theorem E262_57 {d sl : Nat} {p : Nat → Nat} {I : Nat → Nat → Int32} {J : Nat → Nat → Int64} (l1 : Int32) (l2 : Int32) (s0 : Int32)  : ev d 262 57 [.ref 46, .int l1, .int l2] [.int s0] (S sl p I J) = ev d 262 39 [.ref 46, .int l1, .int s0] [] (S sl p (up2 I 46 40 ((I 46 40) + 1)) J) := by
  refine (r_isn (L' := [.ref 46, .int l1, .int s0]) (dk D262 32 rfl) (Nat.le_of_ble_eq_true rfl) rfl).trans ?_
  refine (r_aln (dk D262 33 rfl) rfl).trans ?_
  refine (r_dup (dk D262 34 rfl) rfl).trans ?_
  refine (r_getI (dk D262 35 rfl) ow262 q12_378 ob_46).trans ?_
  refine (r_ic (dk D262 36 rfl) ci1).trans ?_
  refine (r_iadd (dk D262 37 rfl)).trans ?_
  refine (r_putI (dk D262 38 rfl) ow262 w12_378 ob_46).trans ?_
  refine (r_goto (L' := [.ref 46, .int l1, .int s0]) (dk D262 39 rfl) rfl nd262_39 rfl).trans ?_
  exact rfl
set_option maxRecDepth 20000 in
theorem D263 : dOK 263 [(0, .iload_n 0, 1), (1, .iconst 1, 1), (2, .bipush 90, 2), (4, .invokestatic 178, 3), (7, .ireturn, 1)] = true := by decide +kernel
theorem E263_0 {d sl : Nat} {p : Nat → Nat} {I : Nat → Nat → Int32} {J : Nat → Nat → Int64} (a0 : Int32)  : den (d + 1) 263 [.int a0] (S sl p I J) = evK (d + 1) 263 7 [.int a0] [] (den d 181 [.int a0, .int 1, .int 90] (S sl p I J)) := by
  refine (show den (d + 1) 263 [.int a0] (S sl p I J) = ev (d + 1) 263 0 [.int a0] [] (S sl p I J) from rfl).trans ?_
  refine (r_iln (dk D263 0 rfl) rfl).trans ?_
  refine (r_ic (dk D263 1 rfl) ci1).trans ?_
  refine (r_bp (dk D263 2 rfl) cb90).trans ?_
  exact r_cs (dk D263 3 rfl) ow263 pn12_178 c12_178 mf181 (Nat.le_of_ble_eq_true rfl) rfl rfl (Nat.le_of_ble_eq_true rfl) (Nat.le_of_ble_eq_true rfl)
theorem E263_7 {d sl : Nat} {p : Nat → Nat} {I : Nat → Nat → Int32} {J : Nat → Nat → Int64} (l0 : Int32) (s0 : Int32)  : ev d 263 7 [.int l0] [.int s0] (S sl p I J) = ck (decide (s0 = 0 ∨ s0 = 1)) (some (some (.int s0), (S sl p I J))) := by
  exact r_rezc (dk D263 4 rfl) rt263
set_option maxRecDepth 20000 in
theorem D264 : dOK 264 [(0, .iload_n 1, 1), (1, .invokestatic 384, 3), (4, .ifCond .eq 12, 3), (7, .iload_n 2, 1), (8, .iconst 0, 1), (9, .iconst 2, 1), (10, .invokestatic 178, 3), (13, .ifCond .ne 9, 3), (16, .aload_n 0, 1), (17, .iconst 1, 1), (18, .invokevirtual 183, 3), (21, .ireturn, 1), (22, .aload_n 0, 1), (23, .iload_n 1, 1), (24, .invokevirtual 387, 3), (27, .iconst 0, 1), (28, .istore_n 3, 1), (29, .iconst 0, 1), (30, .istore 4, 2), (32, .iconst 0, 1), (33, .istore 5, 2), (35, .iload 5, 2), (37, .aload_n 0, 1), (38, .getfield 196, 3), (41, .if_icmp .ge 55, 3), (44, .iload_n 3, 1), (45, .aload_n 0, 1), (46, .getfield 89, 3), (49, .iload 5, 2), (51, .iaload, 1), (52, .aload_n 0, 1), (53, .getfield 71, 3), (56, .iload 5, 2), (58, .iaload, 1), (59, .if_icmp .eq 7, 3), (62, .iconst 1, 1), (63, .goto 4, 3), (66, .iconst 0, 1), (67, .iadd, 1), (68, .istore_n 3, 1), (69, .iload 4, 2), (71, .aload_n 0, 1), (72, .getfield 89, 3), (75, .iload 5, 2), (77, .iaload, 1), (78, .iconst (-1), 1), (79, .if_icmp .ne 7, 3), (82, .iconst 1, 1), (83, .goto 4, 3), (86, .iconst 0, 1), (87, .iadd, 1), (88, .istore 4, 2), (90, .iinc 5 1, 3), (93, .goto (-58), 3), (96, .aload_n 0, 1), (97, .iload_n 2, 1), (98, .ifCond .ne 10, 3), (101, .aload_n 0, 1), (102, .getfield 378, 3), (105, .goto 14, 3), (108, .iload_n 2, 1), (109, .iconst 1, 1), (110, .if_icmp .ne 7, 3), (113, .iload_n 3, 1), (114, .goto 5, 3), (117, .iload 4, 2), (119, .invokevirtual 193, 3), (122, .ireturn, 1)] = true := by decide +kernel
theorem E264_0 {d sl : Nat} {p : Nat → Nat} {I : Nat → Nat → Int32} {J : Nat → Nat → Int64} (a1 : Int32) (a2 : Int32)  : den (d + 1) 264 [.ref 46, .int a1, .int a2] (S sl p I J) = evK (d + 1) 264 4 [.ref 46, .int a1, .int a2, .retAddr 0, .retAddr 0, .retAddr 0] [] (den d 263 [.int a1] (S sl p I J)) := by
  refine (show den (d + 1) 264 [.ref 46, .int a1, .int a2] (S sl p I J) = ev (d + 1) 264 0 [.ref 46, .int a1, .int a2, .retAddr 0, .retAddr 0, .retAddr 0] [] (S sl p I J) from rfl).trans ?_
  refine (r_iln (dk D264 0 rfl) rfl).trans ?_
  exact r_cs (dk D264 1 rfl) ow264 pn12_384 c12_384 mf263 (Nat.le_of_ble_eq_true rfl) rfl rfl (Nat.le_of_ble_eq_true rfl) (Nat.le_of_ble_eq_true rfl)
theorem E264_4 {d sl : Nat} {p : Nat → Nat} {I : Nat → Nat → Int32} {J : Nat → Nat → Int64} (l1 : Int32) (l2 : Int32) (s0 : Int32)  : ev (d + 1) 264 4 [.ref 46, .int l1, .int l2, .retAddr 0, .retAddr 0, .retAddr 0] [.int s0] (S sl p I J) = (if s0 = 0 then ev (d + 1) 264 16 [.ref 46, .int l1, .int l2, .retAddr 0, .retAddr 0, .retAddr 0] [] (S sl p I J) else evK (d + 1) 264 13 [.ref 46, .int l1, .int l2, .retAddr 0, .retAddr 0, .retAddr 0] [] (den d 181 [.int l2, .int 0, .int 2] (S sl p I J))) := by
  refine (r_eq0 (dk D264 2 rfl) rfl).trans (ite2 ?_ ?_)
  · exact rfl
  · refine (r_iln (dk D264 3 rfl) rfl).trans ?_
    refine (r_ic (dk D264 4 rfl) ci0).trans ?_
    refine (r_ic (dk D264 5 rfl) ci2).trans ?_
    exact r_cs (dk D264 6 rfl) ow264 pn12_178 c12_178 mf181 (Nat.le_of_ble_eq_true rfl) rfl rfl (Nat.le_of_ble_eq_true rfl) (Nat.le_of_ble_eq_true rfl)
theorem E264_13 {d sl : Nat} {p : Nat → Nat} {I : Nat → Nat → Int32} {J : Nat → Nat → Int64} (l1 : Int32) (l2 : Int32) (s0 : Int32)  : ev (d + 1) 264 13 [.ref 46, .int l1, .int l2, .retAddr 0, .retAddr 0, .retAddr 0] [.int s0] (S sl p I J) = (if s0 = 0 then ev (d + 1) 264 16 [.ref 46, .int l1, .int l2, .retAddr 0, .retAddr 0, .retAddr 0] [] (S sl p I J) else evK (d + 1) 264 27 [.ref 46, .int l1, .int l2, .retAddr 0, .retAddr 0, .retAddr 0] [] (den d 262 [.ref 46, .int l1] (S sl p I J))) := by
  refine (r_ne0 (dk D264 7 rfl) rfl).trans (ite2 ?_ ?_)
  · exact rfl
  · refine (r_aln (dk D264 12 rfl) rfl).trans ?_
    refine (r_iln (dk D264 13 rfl) rfl).trans ?_
    exact r_cv (dk D264 14 rfl) ow264 c12_387 mf262 (Nat.le_of_ble_eq_true rfl) rfl rfl (Nat.le_of_ble_eq_true rfl) (Nat.le_of_ble_eq_true rfl) ob_46
theorem E264_16 {d sl : Nat} {p : Nat → Nat} {I : Nat → Nat → Int32} {J : Nat → Nat → Int64} (l1 : Int32) (l2 : Int32)  : ev (d + 1) 264 16 [.ref 46, .int l1, .int l2, .retAddr 0, .retAddr 0, .retAddr 0] [] (S sl p I J) = evK (d + 1) 264 21 [.ref 46, .int l1, .int l2, .retAddr 0, .retAddr 0, .retAddr 0] [] (den d 178 [.ref 46, .int 1] (S sl p I J)) := by
  refine (r_aln (dk D264 8 rfl) rfl).trans ?_
  refine (r_ic (dk D264 9 rfl) ci1).trans ?_
  exact r_cv (dk D264 10 rfl) ow264 c12_183 mf178 (Nat.le_of_ble_eq_true rfl) rfl rfl (Nat.le_of_ble_eq_true rfl) (Nat.le_of_ble_eq_true rfl) ob_46
theorem E264_21 {d sl : Nat} {p : Nat → Nat} {I : Nat → Nat → Int32} {J : Nat → Nat → Int64} (l1 : Int32) (l2 : Int32) (s0 : Int32)  : ev d 264 21 [.ref 46, .int l1, .int l2, .retAddr 0, .retAddr 0, .retAddr 0] [.int s0] (S sl p I J) = some (some (.int s0), (S sl p I J)) := by
  exact r_ret (dk D264 11 rfl) rt264
theorem E264_27 {d sl : Nat} {p : Nat → Nat} {I : Nat → Nat → Int32} {J : Nat → Nat → Int64} (l1 : Int32) (l2 : Int32)  : ev d 264 27 [.ref 46, .int l1, .int l2, .retAddr 0, .retAddr 0, .retAddr 0] [] (S sl p I J) = ev d 264 35 [.ref 46, .int l1, .int l2, .int 0, .int 0, .int 0] [] (S sl p I J) := by
  refine (r_ic (dk D264 15 rfl) ci0).trans ?_
  refine (r_isn (L' := [.ref 46, .int l1, .int l2, .int 0, .retAddr 0, .retAddr 0]) (dk D264 16 rfl) (Nat.le_of_ble_eq_true rfl) rfl).trans ?_
  refine (r_ic (dk D264 17 rfl) ci0).trans ?_
  refine (r_is (L' := [.ref 46, .int l1, .int l2, .int 0, .int 0, .retAddr 0]) (dk D264 18 rfl) (Nat.le_of_ble_eq_true rfl) rfl).trans ?_
  refine (r_ic (dk D264 19 rfl) ci0).trans ?_
  refine (r_is (L' := [.ref 46, .int l1, .int l2, .int 0, .int 0, .int 0]) (dk D264 20 rfl) (Nat.le_of_ble_eq_true rfl) rfl).trans ?_
  exact rfl
theorem E264_35 {d sl : Nat} {p : Nat → Nat} {I : Nat → Nat → Int32} {J : Nat → Nat → Int64} (l1 : Int32) (l2 : Int32) (l3 : Int32) (l4 : Int32) (l5 : Int32)  : ev d 264 35 [.ref 46, .int l1, .int l2, .int l3, .int l4, .int l5] [] (S sl p I J) = (if l5 < (I 46 2) then ck (ixb 60 l5) (ck (ixb 60 l5) ((if (I 67 (Int32.toNatClampNeg l5)) = (I 61 (Int32.toNatClampNeg l5)) then ev d 264 67 [.ref 46, .int l1, .int l2, .int l3, .int l4, .int l5] [.int 0, .int l3] (S sl p I J) else ev d 264 67 [.ref 46, .int l1, .int l2, .int l3, .int l4, .int l5] [.int 1, .int l3] (S sl p I J)))) else (if l2 = 0 then ev d 264 119 [.ref 46, .int l1, .int l2, .int l3, .int l4, .int l5] [.int (I 46 40), .ref 46] (S sl p I J) else (if l2 = 1 then ev d 264 119 [.ref 46, .int l1, .int l2, .int l3, .int l4, .int l5] [.int l3, .ref 46] (S sl p I J) else ev d 264 119 [.ref 46, .int l1, .int l2, .int l3, .int l4, .int l5] [.int l4, .ref 46] (S sl p I J)))) := by
  refine (r_il (dk D264 21 rfl) rfl).trans ?_
  refine (r_aln (dk D264 22 rfl) rfl).trans ?_
  refine (r_getI (dk D264 23 rfl) ow264 q12_196 ob_46).trans ?_
  refine (r_ge (dk D264 24 rfl) rfl).trans (ite2 ?_ ?_)
  · refine (r_iln (dk D264 25 rfl) rfl).trans ?_
    refine (r_aln (dk D264 26 rfl) rfl).trans ?_
    refine (r_getR (dk D264 27 rfl) ow264 q12_89 ob_46 rfl).trans ?_
    refine (r_il (dk D264 28 rfl) rfl).trans ?_
    refine (r_ild (dk D264 29 rfl) ar_67).trans (ck3 fun g1 => ?_)
    refine (r_aln (dk D264 30 rfl) rfl).trans ?_
    refine (r_getR (dk D264 31 rfl) ow264 q12_71 ob_46 rfl).trans ?_
    refine (r_il (dk D264 32 rfl) rfl).trans ?_
    refine (r_ild (dk D264 33 rfl) ar_61).trans (ck3 fun g2 => ?_)
    refine (r_eq (dk D264 34 rfl) rfl).trans (ite2 ?_ ?_)
    · refine (r_ic (dk D264 37 rfl) ci0).trans ?_
      exact rfl
    · refine (r_ic (dk D264 35 rfl) ci1).trans ?_
      refine (r_goto (L' := [.ref 46, .int l1, .int l2, .int l3, .int l4, .int l5]) (dk D264 36 rfl) rfl nd264_67 rfl).trans ?_
      exact rfl
  · refine (r_aln (dk D264 54 rfl) rfl).trans ?_
    refine (r_iln (dk D264 55 rfl) rfl).trans ?_
    refine (r_ne0 (dk D264 56 rfl) rfl).trans (ite2 ?_ ?_)
    · refine (r_aln (dk D264 57 rfl) rfl).trans ?_
      refine (r_getI (dk D264 58 rfl) ow264 q12_378 ob_46).trans ?_
      refine (r_goto (L' := [.ref 46, .int l1, .int l2, .int l3, .int l4, .int l5]) (dk D264 59 rfl) rfl nd264_119 rfl).trans ?_
      exact rfl
    · refine (r_iln (dk D264 60 rfl) rfl).trans ?_
      refine (r_ic (dk D264 61 rfl) ci1).trans ?_
      refine (r_ne (dk D264 62 rfl) rfl).trans (ite2 ?_ ?_)
      · refine (r_iln (dk D264 63 rfl) rfl).trans ?_
        refine (r_goto (L' := [.ref 46, .int l1, .int l2, .int l3, .int l4, .int l5]) (dk D264 64 rfl) rfl nd264_119 rfl).trans ?_
        exact rfl
      · refine (r_il (dk D264 65 rfl) rfl).trans ?_
        exact rfl
theorem E264_67 {d sl : Nat} {p : Nat → Nat} {I : Nat → Nat → Int32} {J : Nat → Nat → Int64} (l1 : Int32) (l2 : Int32) (l3 : Int32) (l4 : Int32) (l5 : Int32) (s0 : Int32) (s1 : Int32)  : ev d 264 67 [.ref 46, .int l1, .int l2, .int l3, .int l4, .int l5] [.int s0, .int s1] (S sl p I J) = ck (ixb 60 l5) ((if (I 67 (Int32.toNatClampNeg l5)) = (-1) then ev d 264 35 [.ref 46, .int l1, .int l2, .int (s1 + s0), .int (l4 + 1), .int (l5 + 1)] [] (S sl p I J) else ev d 264 35 [.ref 46, .int l1, .int l2, .int (s1 + s0), .int (l4 + 0), .int (l5 + 1)] [] (S sl p I J))) := by
  refine (r_iadd (dk D264 38 rfl)).trans ?_
  refine (r_isn (L' := [.ref 46, .int l1, .int l2, .int (s1 + s0), .int l4, .int l5]) (dk D264 39 rfl) (Nat.le_of_ble_eq_true rfl) rfl).trans ?_
  refine (r_il (dk D264 40 rfl) rfl).trans ?_
  refine (r_aln (dk D264 41 rfl) rfl).trans ?_
  refine (r_getR (dk D264 42 rfl) ow264 q12_89 ob_46 rfl).trans ?_
  refine (r_il (dk D264 43 rfl) rfl).trans ?_
  refine (r_ild (dk D264 44 rfl) ar_67).trans (ck3 fun g1 => ?_)
  refine (r_ic (dk D264 45 rfl) cim1).trans ?_
  refine (r_ne (dk D264 46 rfl) rfl).trans (ite2 ?_ ?_)
  · refine (r_ic (dk D264 47 rfl) ci1).trans ?_
    refine (r_goto (L' := [.ref 46, .int l1, .int l2, .int (s1 + s0), .int l4, .int l5]) (dk D264 48 rfl) rfl nd264_87 rfl).trans ?_
    refine (r_iadd (dk D264 50 rfl)).trans ?_
    refine (r_is (L' := [.ref 46, .int l1, .int l2, .int (s1 + s0), .int (l4 + 1), .int l5]) (dk D264 51 rfl) (Nat.le_of_ble_eq_true rfl) rfl).trans ?_
    refine (r_inc (L' := [.ref 46, .int l1, .int l2, .int (s1 + s0), .int (l4 + 1), .int (l5 + 1)]) (dk D264 52 rfl) rfl rfl ci1 (Nat.le_of_ble_eq_true rfl) rfl).trans ?_
    refine (r_goto (L' := [.ref 46, .int l1, .int l2, .int (s1 + s0), .int (l4 + 1), .int (l5 + 1)]) (dk D264 53 rfl) rfl nd264_35 rfl).trans ?_
    exact rfl
  · refine (r_ic (dk D264 49 rfl) ci0).trans ?_
    refine (r_iadd (dk D264 50 rfl)).trans ?_
    refine (r_is (L' := [.ref 46, .int l1, .int l2, .int (s1 + s0), .int (l4 + 0), .int l5]) (dk D264 51 rfl) (Nat.le_of_ble_eq_true rfl) rfl).trans ?_
    refine (r_inc (L' := [.ref 46, .int l1, .int l2, .int (s1 + s0), .int (l4 + 0), .int (l5 + 1)]) (dk D264 52 rfl) rfl rfl ci1 (Nat.le_of_ble_eq_true rfl) rfl).trans ?_
    refine (r_goto (L' := [.ref 46, .int l1, .int l2, .int (s1 + s0), .int (l4 + 0), .int (l5 + 1)]) (dk D264 53 rfl) rfl nd264_35 rfl).trans ?_
    exact rfl
theorem E264_119 {d sl : Nat} {p : Nat → Nat} {I : Nat → Nat → Int32} {J : Nat → Nat → Int64} (l1 : Int32) (l2 : Int32) (l3 : Int32) (l4 : Int32) (l5 : Int32) (s0 : Int32)  : ev (d + 1) 264 119 [.ref 46, .int l1, .int l2, .int l3, .int l4, .int l5] [.int s0, .ref 46] (S sl p I J) = evK (d + 1) 264 122 [.ref 46, .int l1, .int l2, .int l3, .int l4, .int l5] [] (den d 179 [.ref 46, .int s0] (S sl p I J)) := by
  exact r_cv (dk D264 66 rfl) ow264 c12_193 mf179 (Nat.le_of_ble_eq_true rfl) rfl rfl (Nat.le_of_ble_eq_true rfl) (Nat.le_of_ble_eq_true rfl) ob_46
theorem E264_122 {d sl : Nat} {p : Nat → Nat} {I : Nat → Nat → Int32} {J : Nat → Nat → Int64} (l1 : Int32) (l2 : Int32) (l3 : Int32) (l4 : Int32) (l5 : Int32) (s0 : Int32)  : ev d 264 122 [.ref 46, .int l1, .int l2, .int l3, .int l4, .int l5] [.int s0] (S sl p I J) = some (some (.int s0), (S sl p I J)) := by
  exact r_ret (dk D264 67 rfl) rt264
set_option maxRecDepth 20000 in
theorem D265 : dOK 265 [(0, .iload_n 1, 1), (1, .invokestatic 384, 3), (4, .ifCond .ne 9, 3), (7, .aload_n 0, 1), (8, .iconst 1, 1), (9, .invokevirtual 183, 3), (12, .ireturn, 1), (13, .aload_n 0, 1), (14, .iload_n 2, 1), (15, .invokevirtual 210, 3), (18, .ifCond .ne 9, 3), (21, .aload_n 0, 1), (22, .iconst 2, 1), (23, .invokevirtual 183, 3), (26, .ireturn, 1), (27, .aload_n 0, 1), (28, .iload_n 1, 1), (29, .invokevirtual 387, 3), (32, .aload_n 0, 1), (33, .aload_n 0, 1), (34, .getfield 89, 3), (37, .iload_n 2, 1), (38, .iaload, 1), (39, .invokevirtual 193, 3), (42, .ireturn, 1)] = true := by decide +kernel
theorem E265_0 {d sl : Nat} {p : Nat → Nat} {I : Nat → Nat → Int32} {J : Nat → Nat → Int64} (a1 : Int32) (a2 : Int32)  : den (d + 1) 265 [.ref 46, .int a1, .int a2] (S sl p I J) = evK (d + 1) 265 4 [.ref 46, .int a1, .int a2] [] (den d 263 [.int a1] (S sl p I J)) := by
  refine (show den (d + 1) 265 [.ref 46, .int a1, .int a2] (S sl p I J) = ev (d + 1) 265 0 [.ref 46, .int a1, .int a2] [] (S sl p I J) from rfl).trans ?_
  refine (r_iln (dk D265 0 rfl) rfl).trans ?_
  exact r_cs (dk D265 1 rfl) ow265 pn12_384 c12_384 mf263 (Nat.le_of_ble_eq_true rfl) rfl rfl (Nat.le_of_ble_eq_true rfl) (Nat.le_of_ble_eq_true rfl)
theorem E265_4 {d sl : Nat} {p : Nat → Nat} {I : Nat → Nat → Int32} {J : Nat → Nat → Int64} (l1 : Int32) (l2 : Int32) (s0 : Int32)  : ev (d + 1) 265 4 [.ref 46, .int l1, .int l2] [.int s0] (S sl p I J) = (if s0 = 0 then evK (d + 1) 265 12 [.ref 46, .int l1, .int l2] [] (den d 178 [.ref 46, .int 1] (S sl p I J)) else evK (d + 1) 265 18 [.ref 46, .int l1, .int l2] [] (den d 201 [.ref 46, .int l2] (S sl p I J))) := by
  refine (r_ne0 (dk D265 2 rfl) rfl).trans (ite2 ?_ ?_)
  · refine (r_aln (dk D265 3 rfl) rfl).trans ?_
    refine (r_ic (dk D265 4 rfl) ci1).trans ?_
    exact r_cv (dk D265 5 rfl) ow265 c12_183 mf178 (Nat.le_of_ble_eq_true rfl) rfl rfl (Nat.le_of_ble_eq_true rfl) (Nat.le_of_ble_eq_true rfl) ob_46
  · refine (r_aln (dk D265 7 rfl) rfl).trans ?_
    refine (r_iln (dk D265 8 rfl) rfl).trans ?_
    exact r_cv (dk D265 9 rfl) ow265 c12_210 mf201 (Nat.le_of_ble_eq_true rfl) rfl rfl (Nat.le_of_ble_eq_true rfl) (Nat.le_of_ble_eq_true rfl) ob_46
theorem E265_12 {d sl : Nat} {p : Nat → Nat} {I : Nat → Nat → Int32} {J : Nat → Nat → Int64} (l1 : Int32) (l2 : Int32) (s0 : Int32)  : ev d 265 12 [.ref 46, .int l1, .int l2] [.int s0] (S sl p I J) = some (some (.int s0), (S sl p I J)) := by
  exact r_ret (dk D265 6 rfl) rt265
theorem E265_18 {d sl : Nat} {p : Nat → Nat} {I : Nat → Nat → Int32} {J : Nat → Nat → Int64} (l1 : Int32) (l2 : Int32) (s0 : Int32)  : ev (d + 1) 265 18 [.ref 46, .int l1, .int l2] [.int s0] (S sl p I J) = (if s0 = 0 then evK (d + 1) 265 26 [.ref 46, .int l1, .int l2] [] (den d 178 [.ref 46, .int 2] (S sl p I J)) else evK (d + 1) 265 32 [.ref 46, .int l1, .int l2] [] (den d 262 [.ref 46, .int l1] (S sl p I J))) := by
  refine (r_ne0 (dk D265 10 rfl) rfl).trans (ite2 ?_ ?_)
  · refine (r_aln (dk D265 11 rfl) rfl).trans ?_
    refine (r_ic (dk D265 12 rfl) ci2).trans ?_
    exact r_cv (dk D265 13 rfl) ow265 c12_183 mf178 (Nat.le_of_ble_eq_true rfl) rfl rfl (Nat.le_of_ble_eq_true rfl) (Nat.le_of_ble_eq_true rfl) ob_46
  · refine (r_aln (dk D265 15 rfl) rfl).trans ?_
    refine (r_iln (dk D265 16 rfl) rfl).trans ?_
    exact r_cv (dk D265 17 rfl) ow265 c12_387 mf262 (Nat.le_of_ble_eq_true rfl) rfl rfl (Nat.le_of_ble_eq_true rfl) (Nat.le_of_ble_eq_true rfl) ob_46
theorem E265_26 {d sl : Nat} {p : Nat → Nat} {I : Nat → Nat → Int32} {J : Nat → Nat → Int64} (l1 : Int32) (l2 : Int32) (s0 : Int32)  : ev d 265 26 [.ref 46, .int l1, .int l2] [.int s0] (S sl p I J) = some (some (.int s0), (S sl p I J)) := by
  exact r_ret (dk D265 14 rfl) rt265
theorem E265_32 {d sl : Nat} {p : Nat → Nat} {I : Nat → Nat → Int32} {J : Nat → Nat → Int64} (l1 : Int32) (l2 : Int32)  : ev (d + 1) 265 32 [.ref 46, .int l1, .int l2] [] (S sl p I J) = ck (ixb 60 l2) (evK (d + 1) 265 42 [.ref 46, .int l1, .int l2] [] (den d 179 [.ref 46, .int (I 67 (Int32.toNatClampNeg l2))] (S sl p I J))) := by
  refine (r_aln (dk D265 18 rfl) rfl).trans ?_
  refine (r_aln (dk D265 19 rfl) rfl).trans ?_
  refine (r_getR (dk D265 20 rfl) ow265 q12_89 ob_46 rfl).trans ?_
  refine (r_iln (dk D265 21 rfl) rfl).trans ?_
  refine (r_ild (dk D265 22 rfl) ar_67).trans (ck3 fun g1 => ?_)
  exact r_cv (dk D265 23 rfl) ow265 c12_193 mf179 (Nat.le_of_ble_eq_true rfl) rfl rfl (Nat.le_of_ble_eq_true rfl) (Nat.le_of_ble_eq_true rfl) ob_46
theorem E265_42 {d sl : Nat} {p : Nat → Nat} {I : Nat → Nat → Int32} {J : Nat → Nat → Int64} (l1 : Int32) (l2 : Int32) (s0 : Int32)  : ev d 265 42 [.ref 46, .int l1, .int l2] [.int s0] (S sl p I J) = some (some (.int s0), (S sl p I J)) := by
  exact r_ret (dk D265 24 rfl) rt265
set_option maxRecDepth 20000 in
theorem D266 : dOK 266 [(0, .iload_n 1, 1), (1, .invokestatic 384, 3), (4, .ifCond .ne 9, 3), (7, .aload_n 0, 1), (8, .iconst 1, 1), (9, .invokevirtual 183, 3), (12, .ireturn, 1), (13, .aload_n 0, 1), (14, .iload_n 1, 1), (15, .invokevirtual 387, 3), (18, .aload_n 0, 1), (19, .iload_n 2, 1), (20, .invokevirtual 324, 3), (23, .ifCond .ne 9, 3), (26, .aload_n 0, 1), (27, .iconst 2, 1), (28, .invokevirtual 183, 3), (31, .ireturn, 1), (32, .aload_n 0, 1), (33, .iload_n 2, 1), (34, .invokevirtual 342, 3), (37, .aload_n 0, 1), (38, .bipush 100, 2), (40, .aload_n 0, 1), (41, .invokevirtual 348, 3), (44, .imul, 1), (45, .aload_n 0, 1), (46, .invokevirtual 300, 3), (49, .iadd, 1), (50, .invokevirtual 193, 3), (53, .ireturn, 1)] = true := by decide +kernel
theorem E266_0 {d sl : Nat} {p : Nat → Nat} {I : Nat → Nat → Int32} {J : Nat → Nat → Int64} (a1 : Int32) (a2 : Int32)  : den (d + 1) 266 [.ref 46, .int a1, .int a2] (S sl p I J) = evK (d + 1) 266 4 [.ref 46, .int a1, .int a2] [] (den d 263 [.int a1] (S sl p I J)) := by
  refine (show den (d + 1) 266 [.ref 46, .int a1, .int a2] (S sl p I J) = ev (d + 1) 266 0 [.ref 46, .int a1, .int a2] [] (S sl p I J) from rfl).trans ?_
  refine (r_iln (dk D266 0 rfl) rfl).trans ?_
  exact r_cs (dk D266 1 rfl) ow266 pn12_384 c12_384 mf263 (Nat.le_of_ble_eq_true rfl) rfl rfl (Nat.le_of_ble_eq_true rfl) (Nat.le_of_ble_eq_true rfl)
theorem E266_4 {d sl : Nat} {p : Nat → Nat} {I : Nat → Nat → Int32} {J : Nat → Nat → Int64} (l1 : Int32) (l2 : Int32) (s0 : Int32)  : ev (d + 1) 266 4 [.ref 46, .int l1, .int l2] [.int s0] (S sl p I J) = (if s0 = 0 then evK (d + 1) 266 12 [.ref 46, .int l1, .int l2] [] (den d 178 [.ref 46, .int 1] (S sl p I J)) else evK (d + 1) 266 18 [.ref 46, .int l1, .int l2] [] (den d 262 [.ref 46, .int l1] (S sl p I J))) := by
  refine (r_ne0 (dk D266 2 rfl) rfl).trans (ite2 ?_ ?_)
  · refine (r_aln (dk D266 3 rfl) rfl).trans ?_
    refine (r_ic (dk D266 4 rfl) ci1).trans ?_
    exact r_cv (dk D266 5 rfl) ow266 c12_183 mf178 (Nat.le_of_ble_eq_true rfl) rfl rfl (Nat.le_of_ble_eq_true rfl) (Nat.le_of_ble_eq_true rfl) ob_46
  · refine (r_aln (dk D266 7 rfl) rfl).trans ?_
    refine (r_iln (dk D266 8 rfl) rfl).trans ?_
    exact r_cv (dk D266 9 rfl) ow266 c12_387 mf262 (Nat.le_of_ble_eq_true rfl) rfl rfl (Nat.le_of_ble_eq_true rfl) (Nat.le_of_ble_eq_true rfl) ob_46
theorem E266_12 {d sl : Nat} {p : Nat → Nat} {I : Nat → Nat → Int32} {J : Nat → Nat → Int64} (l1 : Int32) (l2 : Int32) (s0 : Int32)  : ev d 266 12 [.ref 46, .int l1, .int l2] [.int s0] (S sl p I J) = some (some (.int s0), (S sl p I J)) := by
  exact r_ret (dk D266 6 rfl) rt266
theorem E266_18 {d sl : Nat} {p : Nat → Nat} {I : Nat → Nat → Int32} {J : Nat → Nat → Int64} (l1 : Int32) (l2 : Int32)  : ev (d + 1) 266 18 [.ref 46, .int l1, .int l2] [] (S sl p I J) = evK (d + 1) 266 23 [.ref 46, .int l1, .int l2] [] (den d 235 [.ref 46, .int l2] (S sl p I J)) := by
  refine (r_aln (dk D266 10 rfl) rfl).trans ?_
  refine (r_iln (dk D266 11 rfl) rfl).trans ?_
  exact r_cv (dk D266 12 rfl) ow266 c12_324 mf235 (Nat.le_of_ble_eq_true rfl) rfl rfl (Nat.le_of_ble_eq_true rfl) (Nat.le_of_ble_eq_true rfl) ob_46
theorem E266_23 {d sl : Nat} {p : Nat → Nat} {I : Nat → Nat → Int32} {J : Nat → Nat → Int64} (l1 : Int32) (l2 : Int32) (s0 : Int32)  : ev (d + 1) 266 23 [.ref 46, .int l1, .int l2] [.int s0] (S sl p I J) = (if s0 = 0 then evK (d + 1) 266 31 [.ref 46, .int l1, .int l2] [] (den d 178 [.ref 46, .int 2] (S sl p I J)) else evK (d + 1) 266 37 [.ref 46, .int l1, .int l2] [] (den d 222 [.ref 46, .int l2] (S sl p I J))) := by
  refine (r_ne0 (dk D266 13 rfl) rfl).trans (ite2 ?_ ?_)
  · refine (r_aln (dk D266 14 rfl) rfl).trans ?_
    refine (r_ic (dk D266 15 rfl) ci2).trans ?_
    exact r_cv (dk D266 16 rfl) ow266 c12_183 mf178 (Nat.le_of_ble_eq_true rfl) rfl rfl (Nat.le_of_ble_eq_true rfl) (Nat.le_of_ble_eq_true rfl) ob_46
  · refine (r_aln (dk D266 18 rfl) rfl).trans ?_
    refine (r_iln (dk D266 19 rfl) rfl).trans ?_
    exact r_cv (dk D266 20 rfl) ow266 c12_342 mf222 (Nat.le_of_ble_eq_true rfl) rfl rfl (Nat.le_of_ble_eq_true rfl) (Nat.le_of_ble_eq_true rfl) ob_46
theorem E266_31 {d sl : Nat} {p : Nat → Nat} {I : Nat → Nat → Int32} {J : Nat → Nat → Int64} (l1 : Int32) (l2 : Int32) (s0 : Int32)  : ev d 266 31 [.ref 46, .int l1, .int l2] [.int s0] (S sl p I J) = some (some (.int s0), (S sl p I J)) := by
  exact r_ret (dk D266 17 rfl) rt266
theorem E266_37 {d sl : Nat} {p : Nat → Nat} {I : Nat → Nat → Int32} {J : Nat → Nat → Int64} (l1 : Int32) (l2 : Int32)  : ev (d + 1) 266 37 [.ref 46, .int l1, .int l2] [] (S sl p I J) = evK (d + 1) 266 44 [.ref 46, .int l1, .int l2] [.int 100, .ref 46] (den d 226 [.ref 46] (S sl p I J)) := by
  refine (r_aln (dk D266 21 rfl) rfl).trans ?_
  refine (r_bp (dk D266 22 rfl) cb100).trans ?_
  refine (r_aln (dk D266 23 rfl) rfl).trans ?_
  exact r_cv (dk D266 24 rfl) ow266 c12_348 mf226 (Nat.le_of_ble_eq_true rfl) rfl rfl (Nat.le_of_ble_eq_true rfl) (Nat.le_of_ble_eq_true rfl) ob_46
theorem E266_44 {d sl : Nat} {p : Nat → Nat} {I : Nat → Nat → Int32} {J : Nat → Nat → Int64} (l1 : Int32) (l2 : Int32) (s0 : Int32) (s1 : Int32)  : ev (d + 1) 266 44 [.ref 46, .int l1, .int l2] [.int s0, .int s1, .ref 46] (S sl p I J) = evK (d + 1) 266 49 [.ref 46, .int l1, .int l2] [.int (s1 * s0), .ref 46] (den d 225 [.ref 46] (S sl p I J)) := by
  refine (r_imul (dk D266 25 rfl)).trans ?_
  refine (r_aln (dk D266 26 rfl) rfl).trans ?_
  exact r_cv (dk D266 27 rfl) ow266 c12_300 mf225 (Nat.le_of_ble_eq_true rfl) rfl rfl (Nat.le_of_ble_eq_true rfl) (Nat.le_of_ble_eq_true rfl) ob_46
theorem E266_49 {d sl : Nat} {p : Nat → Nat} {I : Nat → Nat → Int32} {J : Nat → Nat → Int64} (l1 : Int32) (l2 : Int32) (s0 : Int32) (s1 : Int32)  : ev (d + 1) 266 49 [.ref 46, .int l1, .int l2] [.int s0, .int s1, .ref 46] (S sl p I J) = evK (d + 1) 266 53 [.ref 46, .int l1, .int l2] [] (den d 179 [.ref 46, .int (s1 + s0)] (S sl p I J)) := by
  refine (r_iadd (dk D266 28 rfl)).trans ?_
  exact r_cv (dk D266 29 rfl) ow266 c12_193 mf179 (Nat.le_of_ble_eq_true rfl) rfl rfl (Nat.le_of_ble_eq_true rfl) (Nat.le_of_ble_eq_true rfl) ob_46
theorem E266_53 {d sl : Nat} {p : Nat → Nat} {I : Nat → Nat → Int32} {J : Nat → Nat → Int64} (l1 : Int32) (l2 : Int32) (s0 : Int32)  : ev d 266 53 [.ref 46, .int l1, .int l2] [.int s0] (S sl p I J) = some (some (.int s0), (S sl p I J)) := by
  exact r_ret (dk D266 30 rfl) rt266
set_option maxRecDepth 20000 in
theorem D267 : dOK 267 [(0, .lconst 0, 1), (1, .lstore_n 1, 1), (2, .iconst 0, 1), (3, .istore_n 3, 1), (4, .iload_n 3, 1), (5, .aload_n 0, 1), (6, .getfield 196, 3), (9, .if_icmp .ge 18, 3), (12, .lload_n 1, 1), (13, .aload_n 0, 1), (14, .iload_n 3, 1), (15, .invokevirtual 266, 3), (18, .i2l, 1), (19, .ladd, 1), (20, .lstore_n 1, 1), (21, .iinc 3 1, 3), (24, .goto (-20), 3), (27, .lload_n 1, 1), (28, .lreturn, 1)] = true := by decide +kernel
theorem E267_0 {d sl : Nat} {p : Nat → Nat} {I : Nat → Nat → Int32} {J : Nat → Nat → Int64}   : den d 267 [.ref 46] (S sl p I J) = ev d 267 4 [.ref 46, .long 0, .retAddr 0, .int 0] [] (S sl p I J) := by
  refine (show den d 267 [.ref 46] (S sl p I J) = ev d 267 0 [.ref 46, .retAddr 0, .retAddr 0, .retAddr 0] [] (S sl p I J) from rfl).trans ?_
  refine (r_lc (dk D267 0 rfl) cl0).trans ?_
  refine (r_lsn (L' := [.ref 46, .long 0, .retAddr 0, .retAddr 0]) (dk D267 1 rfl) (Nat.le_of_ble_eq_true rfl) rfl).trans ?_
  refine (r_ic (dk D267 2 rfl) ci0).trans ?_
  refine (r_isn (L' := [.ref 46, .long 0, .retAddr 0, .int 0]) (dk D267 3 rfl) (Nat.le_of_ble_eq_true rfl) rfl).trans ?_
  exact rfl
theorem E267_4 {d sl : Nat} {p : Nat → Nat} {I : Nat → Nat → Int32} {J : Nat → Nat → Int64} (l1 : Int64) (l3 : Int32)  : ev (d + 1) 267 4 [.ref 46, .long l1, .retAddr 0, .int l3] [] (S sl p I J) = (if l3 < (I 46 2) then evK (d + 1) 267 18 [.ref 46, .long l1, .retAddr 0, .int l3] [.long l1] (den d 197 [.ref 46, .int l3] (S sl p I J)) else some (some (.long l1), (S sl p I J))) := by
  refine (r_iln (dk D267 4 rfl) rfl).trans ?_
  refine (r_aln (dk D267 5 rfl) rfl).trans ?_
  refine (r_getI (dk D267 6 rfl) ow267 q12_196 ob_46).trans ?_
  refine (r_ge (dk D267 7 rfl) rfl).trans (ite2 ?_ ?_)
  · refine (r_lln (dk D267 8 rfl) rfl).trans ?_
    refine (r_aln (dk D267 9 rfl) rfl).trans ?_
    refine (r_iln (dk D267 10 rfl) rfl).trans ?_
    exact r_cv (dk D267 11 rfl) ow267 c12_266 mf197 (Nat.le_of_ble_eq_true rfl) rfl rfl (Nat.le_of_ble_eq_true rfl) (Nat.le_of_ble_eq_true rfl) ob_46
  · refine (r_lln (dk D267 17 rfl) rfl).trans ?_
    exact r_rel (dk D267 18 rfl) rt267
theorem E267_18 {d sl : Nat} {p : Nat → Nat} {I : Nat → Nat → Int32} {J : Nat → Nat → Int64} (l1 : Int64) (l3 : Int32) (s0 : Int32) (s1 : Int64)  : ev d 267 18 [.ref 46, .long l1, .retAddr 0, .int l3] [.int s0, .long s1] (S sl p I J) = ev d 267 4 [.ref 46, .long (s1 + (Int32.toInt64 s0)), .retAddr 0, .int (l3 + 1)] [] (S sl p I J) := by
  refine (r_i2l (dk D267 12 rfl)).trans ?_
  refine (r_ladd (dk D267 13 rfl)).trans ?_
  refine (r_lsn (L' := [.ref 46, .long (s1 + (Int32.toInt64 s0)), .retAddr 0, .int l3]) (dk D267 14 rfl) (Nat.le_of_ble_eq_true rfl) rfl).trans ?_
  refine (r_inc (L' := [.ref 46, .long (s1 + (Int32.toInt64 s0)), .retAddr 0, .int (l3 + 1)]) (dk D267 15 rfl) rfl rfl ci1 (Nat.le_of_ble_eq_true rfl) rfl).trans ?_
  refine (r_goto (L' := [.ref 46, .long (s1 + (Int32.toInt64 s0)), .retAddr 0, .int (l3 + 1)]) (dk D267 16 rfl) rfl nd267_4 rfl).trans ?_
  exact rfl
set_option maxRecDepth 20000 in
theorem D268 : dOK 268 [(0, .aload_n 0, 1), (1, .iload_n 1, 1), (2, .iload_n 2, 1), (3, .invokevirtual 207, 3), (6, .aload_n 0, 1), (7, .getfield 127, 3), (10, .i2l, 1), (11, .aload_n 0, 1), (12, .getfield 130, 3), (15, .i2l, 1), (16, .aload_n 0, 1), (17, .getfield 133, 3), (20, .i2l, 1), (21, .invokestatic 146, 3), (24, .lstore 4, 2), (26, .iconst 0, 1), (27, .istore 6, 2), (29, .iconst 0, 1), (30, .istore 7, 2), (32, .iload 7, 2), (34, .aload_n 0, 1), (35, .getfield 196, 3), (38, .if_icmp .ge 82, 3), (41, .iload 6, 2), (43, .aload_n 0, 1), (44, .getfield 50, 3), (47, .iload 7, 2), (49, .iaload, 1), (50, .i2l, 1), (51, .aload_n 0, 1), (52, .getfield 53, 3), (55, .iload 7, 2), (57, .iaload, 1), (58, .i2l, 1), (59, .aload_n 0, 1), (60, .getfield 56, 3), (63, .iload 7, 2), (65, .iaload, 1), (66, .i2l, 1), (67, .aload_n 0, 1), (68, .getfield 127, 3), (71, .i2l, 1), (72, .aload_n 0, 1), (73, .getfield 130, 3), (76, .i2l, 1), (77, .aload_n 0, 1), (78, .getfield 133, 3), (81, .i2l, 1), (82, .invokestatic 136, 3), (85, .aload_n 0, 1), (86, .iload 7, 2), (88, .invokevirtual 154, 3), (91, .lload 4, 2), (93, .lmul, 1), (94, .iload_n 3, 1), (95, .invokestatic 142, 3), (98, .ifCond .eq 12, 3), (101, .aload_n 0, 1), (102, .iload 7, 2), (104, .invokevirtual 266, 3), (107, .goto 4, 3), (110, .iconst 0, 1), (111, .iadd, 1), (112, .istore 6, 2), (114, .iinc 7 1, 3), (117, .goto (-85), 3), (120, .iload 6, 2), (122, .ireturn, 1)] = true := by decide +kernel
theorem E268_0 {d sl : Nat} {p : Nat → Nat} {I : Nat → Nat → Int32} {J : Nat → Nat → Int64} (a1 : Int32) (a2 : Int32) (a3 : Int32)  : den (d + 1) 268 [.ref 46, .int a1, .int a2, .int a3] (S sl p I J) = evK (d + 1) 268 6 [.ref 46, .int a1, .int a2, .int a3, .retAddr 0, .retAddr 0, .retAddr 0, .retAddr 0] [] (den d 186 [.ref 46, .int a1, .int a2] (S sl p I J)) := by
  refine (show den (d + 1) 268 [.ref 46, .int a1, .int a2, .int a3] (S sl p I J) = ev (d + 1) 268 0 [.ref 46, .int a1, .int a2, .int a3, .retAddr 0, .retAddr 0, .retAddr 0, .retAddr 0] [] (S sl p I J) from rfl).trans ?_
  refine (r_aln (dk D268 0 rfl) rfl).trans ?_
  refine (r_iln (dk D268 1 rfl) rfl).trans ?_
  refine (r_iln (dk D268 2 rfl) rfl).trans ?_
  exact r_cv (dk D268 3 rfl) ow268 c12_207 mf186 (Nat.le_of_ble_eq_true rfl) rfl rfl (Nat.le_of_ble_eq_true rfl) (Nat.le_of_ble_eq_true rfl) ob_46
theorem E268_6 {d sl : Nat} {p : Nat → Nat} {I : Nat → Nat → Int32} {J : Nat → Nat → Int64} (l1 : Int32) (l2 : Int32) (l3 : Int32)  : ev (d + 1) 268 6 [.ref 46, .int l1, .int l2, .int l3, .retAddr 0, .retAddr 0, .retAddr 0, .retAddr 0] [] (S sl p I J) = evK (d + 1) 268 24 [.ref 46, .int l1, .int l2, .int l3, .retAddr 0, .retAddr 0, .retAddr 0, .retAddr 0] [] (den d 189 [.long (Int32.toInt64 (I 46 23)), .long (Int32.toInt64 (I 46 24)), .long (Int32.toInt64 (I 46 25))] (S sl p I J)) := by
  refine (r_aln (dk D268 4 rfl) rfl).trans ?_
  refine (r_getI (dk D268 5 rfl) ow268 q12_127 ob_46).trans ?_
  refine (r_i2l (dk D268 6 rfl)).trans ?_
  refine (r_aln (dk D268 7 rfl) rfl).trans ?_
  refine (r_getI (dk D268 8 rfl) ow268 q12_130 ob_46).trans ?_
  refine (r_i2l (dk D268 9 rfl)).trans ?_
  refine (r_aln (dk D268 10 rfl) rfl).trans ?_
  refine (r_getI (dk D268 11 rfl) ow268 q12_133 ob_46).trans ?_
  refine (r_i2l (dk D268 12 rfl)).trans ?_
  exact r_cs (dk D268 13 rfl) ow268 pn12_146 c12_146 mf189 (Nat.le_of_ble_eq_true rfl) rfl rfl (Nat.le_of_ble_eq_true rfl) (Nat.le_of_ble_eq_true rfl)
theorem E268_24 {d sl : Nat} {p : Nat → Nat} {I : Nat → Nat → Int32} {J : Nat → Nat → Int64} (l1 : Int32) (l2 : Int32) (l3 : Int32) (s0 : Int64)  : ev d 268 24 [.ref 46, .int l1, .int l2, .int l3, .retAddr 0, .retAddr 0, .retAddr 0, .retAddr 0] [.long s0] (S sl p I J) = ev d 268 32 [.ref 46, .int l1, .int l2, .int l3, .long s0, .retAddr 0, .int 0, .int 0] [] (S sl p I J) := by
  refine (r_ls (L' := [.ref 46, .int l1, .int l2, .int l3, .long s0, .retAddr 0, .retAddr 0, .retAddr 0]) (dk D268 14 rfl) (Nat.le_of_ble_eq_true rfl) rfl).trans ?_
  refine (r_ic (dk D268 15 rfl) ci0).trans ?_
  refine (r_is (L' := [.ref 46, .int l1, .int l2, .int l3, .long s0, .retAddr 0, .int 0, .retAddr 0]) (dk D268 16 rfl) (Nat.le_of_ble_eq_true rfl) rfl).trans ?_
  refine (r_ic (dk D268 17 rfl) ci0).trans ?_
  refine (r_is (L' := [.ref 46, .int l1, .int l2, .int l3, .long s0, .retAddr 0, .int 0, .int 0]) (dk D268 18 rfl) (Nat.le_of_ble_eq_true rfl) rfl).trans ?_
  exact rfl
theorem E268_32 {d sl : Nat} {p : Nat → Nat} {I : Nat → Nat → Int32} {J : Nat → Nat → Int64} (l1 : Int32) (l2 : Int32) (l3 : Int32) (l4 : Int64) (l6 : Int32) (l7 : Int32)  : ev (d + 1) 268 32 [.ref 46, .int l1, .int l2, .int l3, .long l4, .retAddr 0, .int l6, .int l7] [] (S sl p I J) = (if l7 < (I 46 2) then ck (ixb 60 l7) (ck (ixb 60 l7) (ck (ixb 60 l7) (evK (d + 1) 268 85 [.ref 46, .int l1, .int l2, .int l3, .long l4, .retAddr 0, .int l6, .int l7] [.int l6] (den d 188 [.long (Int32.toInt64 (I 54 (Int32.toNatClampNeg l7))), .long (Int32.toInt64 (I 55 (Int32.toNatClampNeg l7))), .long (Int32.toInt64 (I 56 (Int32.toNatClampNeg l7))), .long (Int32.toInt64 (I 46 23)), .long (Int32.toInt64 (I 46 24)), .long (Int32.toInt64 (I 46 25))] (S sl p I J))))) else some (some (.int l6), (S sl p I J))) := by
  refine (r_il (dk D268 19 rfl) rfl).trans ?_
  refine (r_aln (dk D268 20 rfl) rfl).trans ?_
  refine (r_getI (dk D268 21 rfl) ow268 q12_196 ob_46).trans ?_
  refine (r_ge (dk D268 22 rfl) rfl).trans (ite2 ?_ ?_)
  · refine (r_il (dk D268 23 rfl) rfl).trans ?_
    refine (r_aln (dk D268 24 rfl) rfl).trans ?_
    refine (r_getR (dk D268 25 rfl) ow268 q12_50 ob_46 rfl).trans ?_
    refine (r_il (dk D268 26 rfl) rfl).trans ?_
    refine (r_ild (dk D268 27 rfl) ar_54).trans (ck3 fun g1 => ?_)
    refine (r_i2l (dk D268 28 rfl)).trans ?_
    refine (r_aln (dk D268 29 rfl) rfl).trans ?_
    refine (r_getR (dk D268 30 rfl) ow268 q12_53 ob_46 rfl).trans ?_
    refine (r_il (dk D268 31 rfl) rfl).trans ?_
    refine (r_ild (dk D268 32 rfl) ar_55).trans (ck3 fun g2 => ?_)
    refine (r_i2l (dk D268 33 rfl)).trans ?_
    refine (r_aln (dk D268 34 rfl) rfl).trans ?_
    refine (r_getR (dk D268 35 rfl) ow268 q12_56 ob_46 rfl).trans ?_
    refine (r_il (dk D268 36 rfl) rfl).trans ?_
    refine (r_ild (dk D268 37 rfl) ar_56).trans (ck3 fun g3 => ?_)
    refine (r_i2l (dk D268 38 rfl)).trans ?_
    refine (r_aln (dk D268 39 rfl) rfl).trans ?_
    refine (r_getI (dk D268 40 rfl) ow268 q12_127 ob_46).trans ?_
    refine (r_i2l (dk D268 41 rfl)).trans ?_
    refine (r_aln (dk D268 42 rfl) rfl).trans ?_
    refine (r_getI (dk D268 43 rfl) ow268 q12_130 ob_46).trans ?_
    refine (r_i2l (dk D268 44 rfl)).trans ?_
    refine (r_aln (dk D268 45 rfl) rfl).trans ?_
    refine (r_getI (dk D268 46 rfl) ow268 q12_133 ob_46).trans ?_
    refine (r_i2l (dk D268 47 rfl)).trans ?_
    exact r_cs (dk D268 48 rfl) ow268 pn12_136 c12_136 mf188 (Nat.le_of_ble_eq_true rfl) rfl rfl (Nat.le_of_ble_eq_true rfl) (Nat.le_of_ble_eq_true rfl)
  · refine (r_il (dk D268 66 rfl) rfl).trans ?_
    exact r_ret (dk D268 67 rfl) rt268
theorem E268_85 {d sl : Nat} {p : Nat → Nat} {I : Nat → Nat → Int32} {J : Nat → Nat → Int64} (l1 : Int32) (l2 : Int32) (l3 : Int32) (l4 : Int64) (l6 : Int32) (l7 : Int32) (s0 : Int64) (s1 : Int32)  : ev (d + 1) 268 85 [.ref 46, .int l1, .int l2, .int l3, .long l4, .retAddr 0, .int l6, .int l7] [.long s0, .int s1] (S sl p I J) = evK (d + 1) 268 91 [.ref 46, .int l1, .int l2, .int l3, .long l4, .retAddr 0, .int l6, .int l7] [.long s0, .int s1] (den d 193 [.ref 46, .int l7] (S sl p I J)) := by
  refine (r_aln (dk D268 49 rfl) rfl).trans ?_
  refine (r_il (dk D268 50 rfl) rfl).trans ?_
  exact r_cv (dk D268 51 rfl) ow268 c12_154 mf193 (Nat.le_of_ble_eq_true rfl) rfl rfl (Nat.le_of_ble_eq_true rfl) (Nat.le_of_ble_eq_true rfl) ob_46
theorem E268_91 {d sl : Nat} {p : Nat → Nat} {I : Nat → Nat → Int32} {J : Nat → Nat → Int64} (l1 : Int32) (l2 : Int32) (l3 : Int32) (l4 : Int64) (l6 : Int32) (l7 : Int32) (s0 : Int64) (s1 : Int64) (s2 : Int32)  : ev (d + 1) 268 91 [.ref 46, .int l1, .int l2, .int l3, .long l4, .retAddr 0, .int l6, .int l7] [.long s0, .long s1, .int s2] (S sl p I J) = evK (d + 1) 268 98 [.ref 46, .int l1, .int l2, .int l3, .long l4, .retAddr 0, .int l6, .int l7] [.int s2] (den d 190 [.long s1, .long (s0 * l4), .int l3] (S sl p I J)) := by
  refine (r_ll (dk D268 52 rfl) rfl).trans ?_
  refine (r_lmul (dk D268 53 rfl)).trans ?_
  refine (r_iln (dk D268 54 rfl) rfl).trans ?_
  exact r_cs (dk D268 55 rfl) ow268 pn12_142 c12_142 mf190 (Nat.le_of_ble_eq_true rfl) rfl rfl (Nat.le_of_ble_eq_true rfl) (Nat.le_of_ble_eq_true rfl)
theorem E268_98 {d sl : Nat} {p : Nat → Nat} {I : Nat → Nat → Int32} {J : Nat → Nat → Int64} (l1 : Int32) (l2 : Int32) (l3 : Int32) (l4 : Int64) (l6 : Int32) (l7 : Int32) (s0 : Int32) (s1 : Int32)  : ev (d + 1) 268 98 [.ref 46, .int l1, .int l2, .int l3, .long l4, .retAddr 0, .int l6, .int l7] [.int s0, .int s1] (S sl p I J) = (if s0 = 0 then ev (d + 1) 268 32 [.ref 46, .int l1, .int l2, .int l3, .long l4, .retAddr 0, .int (s1 + 0), .int (l7 + 1)] [] (S sl p I J) else evK (d + 1) 268 107 [.ref 46, .int l1, .int l2, .int l3, .long l4, .retAddr 0, .int l6, .int l7] [.int s1] (den d 197 [.ref 46, .int l7] (S sl p I J))) := by
  refine (r_eq0 (dk D268 56 rfl) rfl).trans (ite2 ?_ ?_)
  · refine (r_ic (dk D268 61 rfl) ci0).trans ?_
    refine (r_iadd (dk D268 62 rfl)).trans ?_
    refine (r_is (L' := [.ref 46, .int l1, .int l2, .int l3, .long l4, .retAddr 0, .int (s1 + 0), .int l7]) (dk D268 63 rfl) (Nat.le_of_ble_eq_true rfl) rfl).trans ?_
    refine (r_inc (L' := [.ref 46, .int l1, .int l2, .int l3, .long l4, .retAddr 0, .int (s1 + 0), .int (l7 + 1)]) (dk D268 64 rfl) rfl rfl ci1 (Nat.le_of_ble_eq_true rfl) rfl).trans ?_
    refine (r_goto (L' := [.ref 46, .int l1, .int l2, .int l3, .long l4, .retAddr 0, .int (s1 + 0), .int (l7 + 1)]) (dk D268 65 rfl) rfl nd268_32 rfl).trans ?_
    exact rfl
  · refine (r_aln (dk D268 57 rfl) rfl).trans ?_
    refine (r_il (dk D268 58 rfl) rfl).trans ?_
    exact r_cv (dk D268 59 rfl) ow268 c12_266 mf197 (Nat.le_of_ble_eq_true rfl) rfl rfl (Nat.le_of_ble_eq_true rfl) (Nat.le_of_ble_eq_true rfl) ob_46
theorem E268_107 {d sl : Nat} {p : Nat → Nat} {I : Nat → Nat → Int32} {J : Nat → Nat → Int64} (l1 : Int32) (l2 : Int32) (l3 : Int32) (l4 : Int64) (l6 : Int32) (l7 : Int32) (s0 : Int32) (s1 : Int32)  : ev d 268 107 [.ref 46, .int l1, .int l2, .int l3, .long l4, .retAddr 0, .int l6, .int l7] [.int s0, .int s1] (S sl p I J) = ev d 268 32 [.ref 46, .int l1, .int l2, .int l3, .long l4, .retAddr 0, .int (s1 + s0), .int (l7 + 1)] [] (S sl p I J) := by
  refine (r_goto (L' := [.ref 46, .int l1, .int l2, .int l3, .long l4, .retAddr 0, .int l6, .int l7]) (dk D268 60 rfl) rfl nd268_111 rfl).trans ?_
  refine (r_iadd (dk D268 62 rfl)).trans ?_
  refine (r_is (L' := [.ref 46, .int l1, .int l2, .int l3, .long l4, .retAddr 0, .int (s1 + s0), .int l7]) (dk D268 63 rfl) (Nat.le_of_ble_eq_true rfl) rfl).trans ?_
  refine (r_inc (L' := [.ref 46, .int l1, .int l2, .int l3, .long l4, .retAddr 0, .int (s1 + s0), .int (l7 + 1)]) (dk D268 64 rfl) rfl rfl ci1 (Nat.le_of_ble_eq_true rfl) rfl).trans ?_
  refine (r_goto (L' := [.ref 46, .int l1, .int l2, .int l3, .long l4, .retAddr 0, .int (s1 + s0), .int (l7 + 1)]) (dk D268 65 rfl) rfl nd268_32 rfl).trans ?_
  exact rfl
set_option maxRecDepth 20000 in
theorem D269 : dOK 269 [(0, .iload_n 1, 1), (1, .iload_n 2, 1), (2, .invokestatic 199, 3), (5, .ifCond .eq 27, 3), (8, .iload_n 3, 1), (9, .iconst 0, 1), (10, .bipush 90, 2), (12, .invokestatic 178, 3), (15, .ifCond .eq 17, 3), (18, .aload_n 0, 1), (19, .aload_n 0, 1), (20, .iload_n 1, 1), (21, .iload_n 2, 1), (22, .iload_n 3, 1), (23, .invokevirtual 390, 3), (26, .invokevirtual 193, 3), (29, .goto 8, 3), (32, .aload_n 0, 1), (33, .iconst 1, 1), (34, .invokevirtual 183, 3), (37, .ireturn, 1)] = true := by decide +kernel
theorem E269_0 {d sl : Nat} {p : Nat → Nat} {I : Nat → Nat → Int32} {J : Nat → Nat → Int64} (a1 : Int32) (a2 : Int32) (a3 : Int32)  : den (d + 1) 269 [.ref 46, .int a1, .int a2, .int a3] (S sl p I J) = evK (d + 1) 269 5 [.ref 46, .int a1, .int a2, .int a3] [] (den d 199 [.int a1, .int a2] (S sl p I J)) := by
  refine (show den (d + 1) 269 [.ref 46, .int a1, .int a2, .int a3] (S sl p I J) = ev (d + 1) 269 0 [.ref 46, .int a1, .int a2, .int a3] [] (S sl p I J) from rfl).trans ?_
  refine (r_iln (dk D269 0 rfl) rfl).trans ?_
  refine (r_iln (dk D269 1 rfl) rfl).trans ?_
  exact r_cs (dk D269 2 rfl) ow269 pn12_199 c12_199 mf199 (Nat.le_of_ble_eq_true rfl) rfl rfl (Nat.le_of_ble_eq_true rfl) (Nat.le_of_ble_eq_true rfl)
theorem E269_5 {d sl : Nat} {p : Nat → Nat} {I : Nat → Nat → Int32} {J : Nat → Nat → Int64} (l1 : Int32) (l2 : Int32) (l3 : Int32) (s0 : Int32)  : ev (d + 1) 269 5 [.ref 46, .int l1, .int l2, .int l3] [.int s0] (S sl p I J) = (if s0 = 0 then ev (d + 1) 269 32 [.ref 46, .int l1, .int l2, .int l3] [] (S sl p I J) else evK (d + 1) 269 15 [.ref 46, .int l1, .int l2, .int l3] [] (den d 181 [.int l3, .int 0, .int 90] (S sl p I J))) := by
  refine (r_eq0 (dk D269 3 rfl) rfl).trans (ite2 ?_ ?_)
  · exact rfl
  · refine (r_iln (dk D269 4 rfl) rfl).trans ?_
    refine (r_ic (dk D269 5 rfl) ci0).trans ?_
    refine (r_bp (dk D269 6 rfl) cb90).trans ?_
    exact r_cs (dk D269 7 rfl) ow269 pn12_178 c12_178 mf181 (Nat.le_of_ble_eq_true rfl) rfl rfl (Nat.le_of_ble_eq_true rfl) (Nat.le_of_ble_eq_true rfl)
theorem E269_15 {d sl : Nat} {p : Nat → Nat} {I : Nat → Nat → Int32} {J : Nat → Nat → Int64} (l1 : Int32) (l2 : Int32) (l3 : Int32) (s0 : Int32)  : ev (d + 1) 269 15 [.ref 46, .int l1, .int l2, .int l3] [.int s0] (S sl p I J) = (if s0 = 0 then ev (d + 1) 269 32 [.ref 46, .int l1, .int l2, .int l3] [] (S sl p I J) else evK (d + 1) 269 26 [.ref 46, .int l1, .int l2, .int l3] [.ref 46] (den d 268 [.ref 46, .int l1, .int l2, .int l3] (S sl p I J))) := by
  refine (r_eq0 (dk D269 8 rfl) rfl).trans (ite2 ?_ ?_)
  · exact rfl
  · refine (r_aln (dk D269 9 rfl) rfl).trans ?_
    refine (r_aln (dk D269 10 rfl) rfl).trans ?_
    refine (r_iln (dk D269 11 rfl) rfl).trans ?_
    refine (r_iln (dk D269 12 rfl) rfl).trans ?_
    refine (r_iln (dk D269 13 rfl) rfl).trans ?_
    exact r_cv (dk D269 14 rfl) ow269 c12_390 mf268 (Nat.le_of_ble_eq_true rfl) rfl rfl (Nat.le_of_ble_eq_true rfl) (Nat.le_of_ble_eq_true rfl) ob_46
theorem E269_26 {d sl : Nat} {p : Nat → Nat} {I : Nat → Nat → Int32} {J : Nat → Nat → Int64} (l1 : Int32) (l2 : Int32) (l3 : Int32) (s0 : Int32)  : ev (d + 1) 269 26 [.ref 46, .int l1, .int l2, .int l3] [.int s0, .ref 46] (S sl p I J) = evK (d + 1) 269 29 [.ref 46, .int l1, .int l2, .int l3] [] (den d 179 [.ref 46, .int s0] (S sl p I J)) := by
  exact r_cv (dk D269 15 rfl) ow269 c12_193 mf179 (Nat.le_of_ble_eq_true rfl) rfl rfl (Nat.le_of_ble_eq_true rfl) (Nat.le_of_ble_eq_true rfl) ob_46
theorem E269_29 {d sl : Nat} {p : Nat → Nat} {I : Nat → Nat → Int32} {J : Nat → Nat → Int64} (l1 : Int32) (l2 : Int32) (l3 : Int32) (s0 : Int32)  : ev d 269 29 [.ref 46, .int l1, .int l2, .int l3] [.int s0] (S sl p I J) = some (some (.int s0), (S sl p I J)) := by
  refine (r_goto (L' := [.ref 46, .int l1, .int l2, .int l3]) (dk D269 16 rfl) rfl nd269_37 rfl).trans ?_
  exact r_ret (dk D269 20 rfl) rt269
theorem E269_32 {d sl : Nat} {p : Nat → Nat} {I : Nat → Nat → Int32} {J : Nat → Nat → Int64} (l1 : Int32) (l2 : Int32) (l3 : Int32)  : ev (d + 1) 269 32 [.ref 46, .int l1, .int l2, .int l3] [] (S sl p I J) = evK (d + 1) 269 37 [.ref 46, .int l1, .int l2, .int l3] [] (den d 178 [.ref 46, .int 1] (S sl p I J)) := by
  refine (r_aln (dk D269 17 rfl) rfl).trans ?_
  refine (r_ic (dk D269 18 rfl) ci1).trans ?_
  exact r_cv (dk D269 19 rfl) ow269 c12_183 mf178 (Nat.le_of_ble_eq_true rfl) rfl rfl (Nat.le_of_ble_eq_true rfl) (Nat.le_of_ble_eq_true rfl) ob_46
theorem E269_37 {d sl : Nat} {p : Nat → Nat} {I : Nat → Nat → Int32} {J : Nat → Nat → Int64} (l1 : Int32) (l2 : Int32) (l3 : Int32) (s0 : Int32)  : ev d 269 37 [.ref 46, .int l1, .int l2, .int l3] [.int s0] (S sl p I J) = some (some (.int s0), (S sl p I J)) := by
  exact r_ret (dk D269 20 rfl) rt269
set_option maxRecDepth 20000 in
theorem D270 : dOK 270 [(0, .iload_n 1, 1), (1, .iload_n 2, 1), (2, .invokestatic 199, 3), (5, .ifCond .eq 13, 3), (8, .iload_n 3, 1), (9, .iconst 0, 1), (10, .bipush 90, 2), (12, .invokestatic 178, 3), (15, .ifCond .ne 9, 3), (18, .aload_n 0, 1), (19, .iconst 1, 1), (20, .invokevirtual 183, 3), (23, .ireturn, 1), (24, .aload_n 0, 1), (25, .aload_n 0, 1), (26, .iload_n 1, 1), (27, .iload_n 2, 1), (28, .iload_n 3, 1), (29, .invokevirtual 390, 3), (32, .aload_n 0, 1), (33, .invokevirtual 394, 3), (36, .sipush 1000, 3), (39, .iload_n 3, 1), (40, .invokestatic 124, 3), (43, .isub, 1), (44, .i2l, 1), (45, .lmul, 1), (46, .ldc2_w 162, 3), (49, .ldiv, 1), (50, .l2i, 1), (51, .isub, 1), (52, .invokevirtual 193, 3), (55, .ireturn, 1)] = true := by decide +kernel
theorem E270_0 {d sl : Nat} {p : Nat → Nat} {I : Nat → Nat → Int32} {J : Nat → Nat → Int64} (a1 : Int32) (a2 : Int32) (a3 : Int32)  : den (d + 1) 270 [.ref 46, .int a1, .int a2, .int a3] (S sl p I J) = evK (d + 1) 270 5 [.ref 46, .int a1, .int a2, .int a3] [] (den d 199 [.int a1, .int a2] (S sl p I J)) := by
  refine (show den (d + 1) 270 [.ref 46, .int a1, .int a2, .int a3] (S sl p I J) = ev (d + 1) 270 0 [.ref 46, .int a1, .int a2, .int a3] [] (S sl p I J) from rfl).trans ?_
  refine (r_iln (dk D270 0 rfl) rfl).trans ?_
  refine (r_iln (dk D270 1 rfl) rfl).trans ?_
  exact r_cs (dk D270 2 rfl) ow270 pn12_199 c12_199 mf199 (Nat.le_of_ble_eq_true rfl) rfl rfl (Nat.le_of_ble_eq_true rfl) (Nat.le_of_ble_eq_true rfl)
theorem E270_5 {d sl : Nat} {p : Nat → Nat} {I : Nat → Nat → Int32} {J : Nat → Nat → Int64} (l1 : Int32) (l2 : Int32) (l3 : Int32) (s0 : Int32)  : ev (d + 1) 270 5 [.ref 46, .int l1, .int l2, .int l3] [.int s0] (S sl p I J) = (if s0 = 0 then ev (d + 1) 270 18 [.ref 46, .int l1, .int l2, .int l3] [] (S sl p I J) else evK (d + 1) 270 15 [.ref 46, .int l1, .int l2, .int l3] [] (den d 181 [.int l3, .int 0, .int 90] (S sl p I J))) := by
  refine (r_eq0 (dk D270 3 rfl) rfl).trans (ite2 ?_ ?_)
  · exact rfl
  · refine (r_iln (dk D270 4 rfl) rfl).trans ?_
    refine (r_ic (dk D270 5 rfl) ci0).trans ?_
    refine (r_bp (dk D270 6 rfl) cb90).trans ?_
    exact r_cs (dk D270 7 rfl) ow270 pn12_178 c12_178 mf181 (Nat.le_of_ble_eq_true rfl) rfl rfl (Nat.le_of_ble_eq_true rfl) (Nat.le_of_ble_eq_true rfl)
theorem E270_15 {d sl : Nat} {p : Nat → Nat} {I : Nat → Nat → Int32} {J : Nat → Nat → Int64} (l1 : Int32) (l2 : Int32) (l3 : Int32) (s0 : Int32)  : ev (d + 1) 270 15 [.ref 46, .int l1, .int l2, .int l3] [.int s0] (S sl p I J) = (if s0 = 0 then ev (d + 1) 270 18 [.ref 46, .int l1, .int l2, .int l3] [] (S sl p I J) else evK (d + 1) 270 32 [.ref 46, .int l1, .int l2, .int l3] [.ref 46] (den d 268 [.ref 46, .int l1, .int l2, .int l3] (S sl p I J))) := by
  refine (r_ne0 (dk D270 8 rfl) rfl).trans (ite2 ?_ ?_)
  · exact rfl
  · refine (r_aln (dk D270 13 rfl) rfl).trans ?_
    refine (r_aln (dk D270 14 rfl) rfl).trans ?_
    refine (r_iln (dk D270 15 rfl) rfl).trans ?_
    refine (r_iln (dk D270 16 rfl) rfl).trans ?_
    refine (r_iln (dk D270 17 rfl) rfl).trans ?_
    exact r_cv (dk D270 18 rfl) ow270 c12_390 mf268 (Nat.le_of_ble_eq_true rfl) rfl rfl (Nat.le_of_ble_eq_true rfl) (Nat.le_of_ble_eq_true rfl) ob_46
theorem E270_18 {d sl : Nat} {p : Nat → Nat} {I : Nat → Nat → Int32} {J : Nat → Nat → Int64} (l1 : Int32) (l2 : Int32) (l3 : Int32)  : ev (d + 1) 270 18 [.ref 46, .int l1, .int l2, .int l3] [] (S sl p I J) = evK (d + 1) 270 23 [.ref 46, .int l1, .int l2, .int l3] [] (den d 178 [.ref 46, .int 1] (S sl p I J)) := by
  refine (r_aln (dk D270 9 rfl) rfl).trans ?_
  refine (r_ic (dk D270 10 rfl) ci1).trans ?_
  exact r_cv (dk D270 11 rfl) ow270 c12_183 mf178 (Nat.le_of_ble_eq_true rfl) rfl rfl (Nat.le_of_ble_eq_true rfl) (Nat.le_of_ble_eq_true rfl) ob_46
theorem E270_23 {d sl : Nat} {p : Nat → Nat} {I : Nat → Nat → Int32} {J : Nat → Nat → Int64} (l1 : Int32) (l2 : Int32) (l3 : Int32) (s0 : Int32)  : ev d 270 23 [.ref 46, .int l1, .int l2, .int l3] [.int s0] (S sl p I J) = some (some (.int s0), (S sl p I J)) := by
  exact r_ret (dk D270 12 rfl) rt270
theorem E270_32 {d sl : Nat} {p : Nat → Nat} {I : Nat → Nat → Int32} {J : Nat → Nat → Int64} (l1 : Int32) (l2 : Int32) (l3 : Int32) (s0 : Int32)  : ev (d + 1) 270 32 [.ref 46, .int l1, .int l2, .int l3] [.int s0, .ref 46] (S sl p I J) = evK (d + 1) 270 36 [.ref 46, .int l1, .int l2, .int l3] [.int s0, .ref 46] (den d 267 [.ref 46] (S sl p I J)) := by
  refine (r_aln (dk D270 19 rfl) rfl).trans ?_
  exact r_cv (dk D270 20 rfl) ow270 c12_394 mf267 (Nat.le_of_ble_eq_true rfl) rfl rfl (Nat.le_of_ble_eq_true rfl) (Nat.le_of_ble_eq_true rfl) ob_46
theorem E270_36 {d sl : Nat} {p : Nat → Nat} {I : Nat → Nat → Int32} {J : Nat → Nat → Int64} (l1 : Int32) (l2 : Int32) (l3 : Int32) (s0 : Int64) (s1 : Int32)  : ev (d + 1) 270 36 [.ref 46, .int l1, .int l2, .int l3] [.long s0, .int s1, .ref 46] (S sl p I J) = evK (d + 1) 270 43 [.ref 46, .int l1, .int l2, .int l3] [.int 1000, .long s0, .int s1, .ref 46] (den d 183 [.int l3] (S sl p I J)) := by
  refine (r_sp (dk D270 21 rfl) cs1000).trans ?_
  refine (r_iln (dk D270 22 rfl) rfl).trans ?_
  exact r_cs (dk D270 23 rfl) ow270 pn12_124 c12_124 mf183 (Nat.le_of_ble_eq_true rfl) rfl rfl (Nat.le_of_ble_eq_true rfl) (Nat.le_of_ble_eq_true rfl)
theorem E270_43 {d sl : Nat} {p : Nat → Nat} {I : Nat → Nat → Int32} {J : Nat → Nat → Int64} (l1 : Int32) (l2 : Int32) (l3 : Int32) (s0 : Int32) (s1 : Int32) (s2 : Int64) (s3 : Int32)  : ev (d + 1) 270 43 [.ref 46, .int l1, .int l2, .int l3] [.int s0, .int s1, .long s2, .int s3, .ref 46] (S sl p I J) = evK (d + 1) 270 55 [.ref 46, .int l1, .int l2, .int l3] [] (den d 179 [.ref 46, .int (s3 - (Int64.toInt32 ((s2 * (Int32.toInt64 (s1 - s0))) / 1000)))] (S sl p I J)) := by
  refine (r_isub (dk D270 24 rfl)).trans ?_
  refine (r_i2l (dk D270 25 rfl)).trans ?_
  refine (r_lmul (dk D270 26 rfl)).trans ?_
  refine (r_ld2 (dk D270 27 rfl) ow270 kk12_162).trans ?_
  refine (r_ldiv (dk D270 28 rfl) (by decide)).trans ?_
  refine (r_l2i (dk D270 29 rfl)).trans ?_
  refine (r_isub (dk D270 30 rfl)).trans ?_
  exact r_cv (dk D270 31 rfl) ow270 c12_193 mf179 (Nat.le_of_ble_eq_true rfl) rfl rfl (Nat.le_of_ble_eq_true rfl) (Nat.le_of_ble_eq_true rfl) ob_46
theorem E270_55 {d sl : Nat} {p : Nat → Nat} {I : Nat → Nat → Int32} {J : Nat → Nat → Int64} (l1 : Int32) (l2 : Int32) (l3 : Int32) (s0 : Int32)  : ev d 270 55 [.ref 46, .int l1, .int l2, .int l3] [.int s0] (S sl p I J) = some (some (.int s0), (S sl p I J)) := by
  exact r_ret (dk D270 32 rfl) rt270
set_option maxRecDepth 20000 in
theorem D271 : dOK 271 [(0, .iload_n 1, 1), (1, .iconst 0, 1), (2, .bipush 17, 2), (4, .invokestatic 178, 3), (7, .ifCond .eq 12, 3), (10, .iload_n 2, 1), (11, .iconst 0, 1), (12, .iconst 1, 1), (13, .invokestatic 178, 3), (16, .ifCond .ne 9, 3), (19, .aload_n 0, 1), (20, .iconst 1, 1), (21, .invokevirtual 183, 3), (24, .ireturn, 1), (25, .iconst 0, 1), (26, .istore_n 3, 1), (27, .iconst 0, 1), (28, .istore 4, 2), (30, .iconst 0, 1), (31, .istore 5, 2), (33, .iload 5, 2), (35, .aload_n 0, 1), (36, .getfield 196, 3), (39, .if_icmp .ge 67, 3), (42, .aload_n 0, 1), (43, .getfield 44, 3), (46, .iload 5, 2), (48, .iaload, 1), (49, .ifCond .eq 51, 3), (52, .aload_n 0, 1), (53, .getfield 41, 3), (56, .iload 5, 2), (58, .iaload, 1), (59, .aload_n 0, 1), (60, .getfield 44, 3), (63, .iload 5, 2), (65, .iaload, 1), (66, .invokestatic 120, 3), (69, .bipush 90, 2), (71, .iadd, 1), (72, .sipush 180, 3), (75, .irem, 1), (76, .bipush 10, 2), (78, .idiv, 1), (79, .iload_n 1, 1), (80, .if_icmp .eq 6, 3), (83, .goto 17, 3), (86, .iinc 3 1, 3), (89, .iload 4, 2), (91, .aload_n 0, 1), (92, .iload 5, 2), (94, .invokevirtual 266, 3), (97, .iadd, 1), (98, .istore 4, 2), (100, .iinc 5 1, 3), (103, .goto (-70), 3), (106, .aload_n 0, 1), (107, .iload_n 2, 1), (108, .ifCond .ne 7, 3), (111, .iload_n 3, 1), (112, .goto 5, 3), (115, .iload 4, 2), (117, .invokevirtual 193, 3), (120, .ireturn, 1)] = true := by decide +kernel
theorem E271_0 {d sl : Nat} {p : Nat → Nat} {I : Nat → Nat → Int32} {J : Nat → Nat → Int64} (a1 : Int32) (a2 : Int32)  : den (d + 1) 271 [.ref 46, .int a1, .int a2] (S sl p I J) = evK (d + 1) 271 7 [.ref 46, .int a1, .int a2, .retAddr 0, .retAddr 0, .retAddr 0] [] (den d 181 [.int a1, .int 0, .int 17] (S sl p I J)) := by
  refine (show den (d + 1) 271 [.ref 46, .int a1, .int a2] (S sl p I J) = ev (d + 1) 271 0 [.ref 46, .int a1, .int a2, .retAddr 0, .retAddr 0, .retAddr 0] [] (S sl p I J) from rfl).trans ?_
  refine (r_iln (dk D271 0 rfl) rfl).trans ?_
  refine (r_ic (dk D271 1 rfl) ci0).trans ?_
  refine (r_bp (dk D271 2 rfl) cb17).trans ?_
  exact r_cs (dk D271 3 rfl) ow271 pn12_178 c12_178 mf181 (Nat.le_of_ble_eq_true rfl) rfl rfl (Nat.le_of_ble_eq_true rfl) (Nat.le_of_ble_eq_true rfl)
theorem E271_7 {d sl : Nat} {p : Nat → Nat} {I : Nat → Nat → Int32} {J : Nat → Nat → Int64} (l1 : Int32) (l2 : Int32) (s0 : Int32)  : ev (d + 1) 271 7 [.ref 46, .int l1, .int l2, .retAddr 0, .retAddr 0, .retAddr 0] [.int s0] (S sl p I J) = (if s0 = 0 then ev (d + 1) 271 19 [.ref 46, .int l1, .int l2, .retAddr 0, .retAddr 0, .retAddr 0] [] (S sl p I J) else evK (d + 1) 271 16 [.ref 46, .int l1, .int l2, .retAddr 0, .retAddr 0, .retAddr 0] [] (den d 181 [.int l2, .int 0, .int 1] (S sl p I J))) := by
  refine (r_eq0 (dk D271 4 rfl) rfl).trans (ite2 ?_ ?_)
  · exact rfl
  · refine (r_iln (dk D271 5 rfl) rfl).trans ?_
    refine (r_ic (dk D271 6 rfl) ci0).trans ?_
    refine (r_ic (dk D271 7 rfl) ci1).trans ?_
    exact r_cs (dk D271 8 rfl) ow271 pn12_178 c12_178 mf181 (Nat.le_of_ble_eq_true rfl) rfl rfl (Nat.le_of_ble_eq_true rfl) (Nat.le_of_ble_eq_true rfl)
theorem E271_16 {d sl : Nat} {p : Nat → Nat} {I : Nat → Nat → Int32} {J : Nat → Nat → Int64} (l1 : Int32) (l2 : Int32) (s0 : Int32)  : ev d 271 16 [.ref 46, .int l1, .int l2, .retAddr 0, .retAddr 0, .retAddr 0] [.int s0] (S sl p I J) = (if s0 = 0 then ev d 271 19 [.ref 46, .int l1, .int l2, .retAddr 0, .retAddr 0, .retAddr 0] [] (S sl p I J) else ev d 271 33 [.ref 46, .int l1, .int l2, .int 0, .int 0, .int 0] [] (S sl p I J)) := by
  refine (r_ne0 (dk D271 9 rfl) rfl).trans (ite2 ?_ ?_)
  · exact rfl
  · refine (r_ic (dk D271 14 rfl) ci0).trans ?_
    refine (r_isn (L' := [.ref 46, .int l1, .int l2, .int 0, .retAddr 0, .retAddr 0]) (dk D271 15 rfl) (Nat.le_of_ble_eq_true rfl) rfl).trans ?_
    refine (r_ic (dk D271 16 rfl) ci0).trans ?_
    refine (r_is (L' := [.ref 46, .int l1, .int l2, .int 0, .int 0, .retAddr 0]) (dk D271 17 rfl) (Nat.le_of_ble_eq_true rfl) rfl).trans ?_
    refine (r_ic (dk D271 18 rfl) ci0).trans ?_
    refine (r_is (L' := [.ref 46, .int l1, .int l2, .int 0, .int 0, .int 0]) (dk D271 19 rfl) (Nat.le_of_ble_eq_true rfl) rfl).trans ?_
    exact rfl
theorem E271_19 {d sl : Nat} {p : Nat → Nat} {I : Nat → Nat → Int32} {J : Nat → Nat → Int64} (l1 : Int32) (l2 : Int32)  : ev (d + 1) 271 19 [.ref 46, .int l1, .int l2, .retAddr 0, .retAddr 0, .retAddr 0] [] (S sl p I J) = evK (d + 1) 271 24 [.ref 46, .int l1, .int l2, .retAddr 0, .retAddr 0, .retAddr 0] [] (den d 178 [.ref 46, .int 1] (S sl p I J)) := by
  refine (r_aln (dk D271 10 rfl) rfl).trans ?_
  refine (r_ic (dk D271 11 rfl) ci1).trans ?_
  exact r_cv (dk D271 12 rfl) ow271 c12_183 mf178 (Nat.le_of_ble_eq_true rfl) rfl rfl (Nat.le_of_ble_eq_true rfl) (Nat.le_of_ble_eq_true rfl) ob_46
theorem E271_24 {d sl : Nat} {p : Nat → Nat} {I : Nat → Nat → Int32} {J : Nat → Nat → Int64} (l1 : Int32) (l2 : Int32) (s0 : Int32)  : ev d 271 24 [.ref 46, .int l1, .int l2, .retAddr 0, .retAddr 0, .retAddr 0] [.int s0] (S sl p I J) = some (some (.int s0), (S sl p I J)) := by
  exact r_ret (dk D271 13 rfl) rt271
theorem E271_33 {d sl : Nat} {p : Nat → Nat} {I : Nat → Nat → Int32} {J : Nat → Nat → Int64} (l1 : Int32) (l2 : Int32) (l3 : Int32) (l4 : Int32) (l5 : Int32)  : ev (d + 1) 271 33 [.ref 46, .int l1, .int l2, .int l3, .int l4, .int l5] [] (S sl p I J) = (if l5 < (I 46 2) then ck (ixb 60 l5) ((if (I 52 (Int32.toNatClampNeg l5)) = 0 then ev (d + 1) 271 33 [.ref 46, .int l1, .int l2, .int l3, .int l4, .int (l5 + 1)] [] (S sl p I J) else ck (ixb 60 l5) (ck (ixb 60 l5) (evK (d + 1) 271 69 [.ref 46, .int l1, .int l2, .int l3, .int l4, .int l5] [] (den d 185 [.int (I 51 (Int32.toNatClampNeg l5)), .int (I 52 (Int32.toNatClampNeg l5))] (S sl p I J)))))) else (if l2 = 0 then ev (d + 1) 271 117 [.ref 46, .int l1, .int l2, .int l3, .int l4, .int l5] [.int l3, .ref 46] (S sl p I J) else ev (d + 1) 271 117 [.ref 46, .int l1, .int l2, .int l3, .int l4, .int l5] [.int l4, .ref 46] (S sl p I J))) := by
  refine (r_il (dk D271 20 rfl) rfl).trans ?_
  refine (r_aln (dk D271 21 rfl) rfl).trans ?_
  refine (r_getI (dk D271 22 rfl) ow271 q12_196 ob_46).trans ?_
  refine (r_ge (dk D271 23 rfl) rfl).trans (ite2 ?_ ?_)
  · refine (r_aln (dk D271 24 rfl) rfl).trans ?_
    refine (r_getR (dk D271 25 rfl) ow271 q12_44 ob_46 rfl).trans ?_
    refine (r_il (dk D271 26 rfl) rfl).trans ?_
    refine (r_ild (dk D271 27 rfl) ar_52).trans (ck3 fun g1 => ?_)
    refine (r_eq0 (dk D271 28 rfl) rfl).trans (ite2 ?_ ?_)
    · refine (r_inc (L' := [.ref 46, .int l1, .int l2, .int l3, .int l4, .int (l5 + 1)]) (dk D271 54 rfl) rfl rfl ci1 (Nat.le_of_ble_eq_true rfl) rfl).trans ?_
      refine (r_goto (L' := [.ref 46, .int l1, .int l2, .int l3, .int l4, .int (l5 + 1)]) (dk D271 55 rfl) rfl nd271_33 rfl).trans ?_
      exact rfl
    · refine (r_aln (dk D271 29 rfl) rfl).trans ?_
      refine (r_getR (dk D271 30 rfl) ow271 q12_41 ob_46 rfl).trans ?_
      refine (r_il (dk D271 31 rfl) rfl).trans ?_
      refine (r_ild (dk D271 32 rfl) ar_51).trans (ck3 fun g2 => ?_)
      refine (r_aln (dk D271 33 rfl) rfl).trans ?_
      refine (r_getR (dk D271 34 rfl) ow271 q12_44 ob_46 rfl).trans ?_
      refine (r_il (dk D271 35 rfl) rfl).trans ?_
      refine (r_ild (dk D271 36 rfl) ar_52).trans (ck3 fun g3 => ?_)
      exact r_cs (dk D271 37 rfl) ow271 pn12_120 c12_120 mf185 (Nat.le_of_ble_eq_true rfl) rfl rfl (Nat.le_of_ble_eq_true rfl) (Nat.le_of_ble_eq_true rfl)
  · refine (r_aln (dk D271 56 rfl) rfl).trans ?_
    refine (r_iln (dk D271 57 rfl) rfl).trans ?_
    refine (r_ne0 (dk D271 58 rfl) rfl).trans (ite2 ?_ ?_)
    · refine (r_iln (dk D271 59 rfl) rfl).trans ?_
      refine (r_goto (L' := [.ref 46, .int l1, .int l2, .int l3, .int l4, .int l5]) (dk D271 60 rfl) rfl nd271_117 rfl).trans ?_
      exact rfl
    · refine (r_il (dk D271 61 rfl) rfl).trans ?_
      exact rfl
theorem E271_69 {d sl : Nat} {p : Nat → Nat} {I : Nat → Nat → Int32} {J : Nat → Nat → Int64} (l1 : Int32) (l2 : Int32) (l3 : Int32) (l4 : Int32) (l5 : Int32) (s0 : Int32)  : ev (d + 1) 271 69 [.ref 46, .int l1, .int l2, .int l3, .int l4, .int l5] [.int s0] (S sl p I J) = (if (((s0 + 90) - (s0 + 90) / 180 * 180) / 10) = l1 then evK (d + 1) 271 97 [.ref 46, .int l1, .int l2, .int (l3 + 1), .int l4, .int l5] [.int l4] (den d 197 [.ref 46, .int l5] (S sl p I J)) else ev (d + 1) 271 33 [.ref 46, .int l1, .int l2, .int l3, .int l4, .int (l5 + 1)] [] (S sl p I J)) := by
  refine (r_bp (dk D271 38 rfl) cb90).trans ?_
  refine (r_iadd (dk D271 39 rfl)).trans ?_
  refine (r_sp (dk D271 40 rfl) cs180).trans ?_
  refine (r_irem (dk D271 41 rfl) (by decide)).trans ?_
  refine (r_bp (dk D271 42 rfl) cb10).trans ?_
  refine (r_idiv (dk D271 43 rfl) (by decide)).trans ?_
  refine (r_iln (dk D271 44 rfl) rfl).trans ?_
  refine (r_eq (dk D271 45 rfl) rfl).trans (ite2 ?_ ?_)
  · refine (r_inc (L' := [.ref 46, .int l1, .int l2, .int (l3 + 1), .int l4, .int l5]) (dk D271 47 rfl) rfl rfl ci1 (Nat.le_of_ble_eq_true rfl) rfl).trans ?_
    refine (r_il (dk D271 48 rfl) rfl).trans ?_
    refine (r_aln (dk D271 49 rfl) rfl).trans ?_
    refine (r_il (dk D271 50 rfl) rfl).trans ?_
    exact r_cv (dk D271 51 rfl) ow271 c12_266 mf197 (Nat.le_of_ble_eq_true rfl) rfl rfl (Nat.le_of_ble_eq_true rfl) (Nat.le_of_ble_eq_true rfl) ob_46
  · refine (r_goto (L' := [.ref 46, .int l1, .int l2, .int l3, .int l4, .int l5]) (dk D271 46 rfl) rfl nd271_100 rfl).trans ?_
    refine (r_inc (L' := [.ref 46, .int l1, .int l2, .int l3, .int l4, .int (l5 + 1)]) (dk D271 54 rfl) rfl rfl ci1 (Nat.le_of_ble_eq_true rfl) rfl).trans ?_
    refine (r_goto (L' := [.ref 46, .int l1, .int l2, .int l3, .int l4, .int (l5 + 1)]) (dk D271 55 rfl) rfl nd271_33 rfl).trans ?_
    exact rfl
theorem E271_97 {d sl : Nat} {p : Nat → Nat} {I : Nat → Nat → Int32} {J : Nat → Nat → Int64} (l1 : Int32) (l2 : Int32) (l3 : Int32) (l4 : Int32) (l5 : Int32) (s0 : Int32) (s1 : Int32)  : ev d 271 97 [.ref 46, .int l1, .int l2, .int l3, .int l4, .int l5] [.int s0, .int s1] (S sl p I J) = ev d 271 33 [.ref 46, .int l1, .int l2, .int l3, .int (s1 + s0), .int (l5 + 1)] [] (S sl p I J) := by
  refine (r_iadd (dk D271 52 rfl)).trans ?_
  refine (r_is (L' := [.ref 46, .int l1, .int l2, .int l3, .int (s1 + s0), .int l5]) (dk D271 53 rfl) (Nat.le_of_ble_eq_true rfl) rfl).trans ?_
  refine (r_inc (L' := [.ref 46, .int l1, .int l2, .int l3, .int (s1 + s0), .int (l5 + 1)]) (dk D271 54 rfl) rfl rfl ci1 (Nat.le_of_ble_eq_true rfl) rfl).trans ?_
  refine (r_goto (L' := [.ref 46, .int l1, .int l2, .int l3, .int (s1 + s0), .int (l5 + 1)]) (dk D271 55 rfl) rfl nd271_33 rfl).trans ?_
  exact rfl
theorem E271_117 {d sl : Nat} {p : Nat → Nat} {I : Nat → Nat → Int32} {J : Nat → Nat → Int64} (l1 : Int32) (l2 : Int32) (l3 : Int32) (l4 : Int32) (l5 : Int32) (s0 : Int32)  : ev (d + 1) 271 117 [.ref 46, .int l1, .int l2, .int l3, .int l4, .int l5] [.int s0, .ref 46] (S sl p I J) = evK (d + 1) 271 120 [.ref 46, .int l1, .int l2, .int l3, .int l4, .int l5] [] (den d 179 [.ref 46, .int s0] (S sl p I J)) := by
  exact r_cv (dk D271 62 rfl) ow271 c12_193 mf179 (Nat.le_of_ble_eq_true rfl) rfl rfl (Nat.le_of_ble_eq_true rfl) (Nat.le_of_ble_eq_true rfl) ob_46
theorem E271_120 {d sl : Nat} {p : Nat → Nat} {I : Nat → Nat → Int32} {J : Nat → Nat → Int64} (l1 : Int32) (l2 : Int32) (l3 : Int32) (l4 : Int32) (l5 : Int32) (s0 : Int32)  : ev d 271 120 [.ref 46, .int l1, .int l2, .int l3, .int l4, .int l5] [.int s0] (S sl p I J) = some (some (.int s0), (S sl p I J)) := by
  exact r_ret (dk D271 63 rfl) rt271
set_option maxRecDepth 20000 in
theorem D272 : dOK 272 [(0, .iconst 0, 1), (1, .istore_n 1, 1), (2, .iload_n 1, 1), (3, .bipush 6, 2), (5, .if_icmp .ge 16, 3), (8, .aload_n 0, 1), (9, .getfield 92, 3), (12, .iload_n 1, 1), (13, .lconst 0, 1), (14, .lastore, 1), (15, .iinc 1 1, 3), (18, .goto (-16), 3), (21, .iconst 0, 1), (22, .istore_n 1, 1), (23, .iload_n 1, 1), (24, .aload_n 0, 1), (25, .getfield 196, 3), (28, .if_icmp .ge 172, 3), (31, .aload_n 0, 1), (32, .iload_n 1, 1), (33, .invokevirtual 266, 3), (36, .i2l, 1), (37, .lstore_n 2, 1), (38, .aload_n 0, 1), (39, .getfield 92, 3), (42, .iconst 0, 1), (43, .dup2, 1), (44, .laload, 1), (45, .lload_n 2, 1), (46, .aload_n 0, 1), (47, .getfield 50, 3), (50, .iload_n 1, 1), (51, .iaload, 1), (52, .i2l, 1), (53, .lmul, 1), (54, .aload_n 0, 1), (55, .getfield 50, 3), (58, .iload_n 1, 1), (59, .iaload, 1), (60, .i2l, 1), (61, .lmul, 1), (62, .ladd, 1), (63, .lastore, 1), (64, .aload_n 0, 1), (65, .getfield 92, 3), (68, .iconst 1, 1), (69, .dup2, 1), (70, .laload, 1), (71, .lload_n 2, 1), (72, .aload_n 0, 1), (73, .getfield 53, 3), (76, .iload_n 1, 1), (77, .iaload, 1), (78, .i2l, 1), (79, .lmul, 1), (80, .aload_n 0, 1), (81, .getfield 53, 3), (84, .iload_n 1, 1), (85, .iaload, 1), (86, .i2l, 1), (87, .lmul, 1), (88, .ladd, 1), (89, .lastore, 1), (90, .aload_n 0, 1), (91, .getfield 92, 3), (94, .iconst 2, 1), (95, .dup2, 1), (96, .laload, 1), (97, .lload_n 2, 1), (98, .aload_n 0, 1), (99, .getfield 56, 3), (102, .iload_n 1, 1), (103, .iaload, 1), (104, .i2l, 1), (105, .lmul, 1), (106, .aload_n 0, 1), (107, .getfield 56, 3), (110, .iload_n 1, 1), (111, .iaload, 1), (112, .i2l, 1), (113, .lmul, 1), (114, .ladd, 1), (115, .lastore, 1), (116, .aload_n 0, 1), (117, .getfield 92, 3), (120, .iconst 3, 1), (121, .dup2, 1), (122, .laload, 1), (123, .lload_n 2, 1), (124, .aload_n 0, 1), (125, .getfield 50, 3), (128, .iload_n 1, 1), (129, .iaload, 1), (130, .i2l, 1), (131, .lmul, 1), (132, .aload_n 0, 1), (133, .getfield 53, 3), (136, .iload_n 1, 1), (137, .iaload, 1), (138, .i2l, 1), (139, .lmul, 1), (140, .ladd, 1), (141, .lastore, 1), (142, .aload_n 0, 1), (143, .getfield 92, 3), (146, .iconst 4, 1), (147, .dup2, 1), (148, .laload, 1), (149, .lload_n 2, 1), (150, .aload_n 0, 1), (151, .getfield 50, 3), (154, .iload_n 1, 1), (155, .iaload, 1), (156, .i2l, 1), (157, .lmul, 1), (158, .aload_n 0, 1), (159, .getfield 56, 3), (162, .iload_n 1, 1), (163, .iaload, 1), (164, .i2l, 1), (165, .lmul, 1), (166, .ladd, 1), (167, .lastore, 1), (168, .aload_n 0, 1), (169, .getfield 92, 3), (172, .iconst 5, 1), (173, .dup2, 1), (174, .laload, 1), (175, .lload_n 2, 1), (176, .aload_n 0, 1), (177, .getfield 53, 3), (180, .iload_n 1, 1), (181, .iaload, 1), (182, .i2l, 1), (183, .lmul, 1), (184, .aload_n 0, 1), (185, .getfield 56, 3), (188, .iload_n 1, 1), (189, .iaload, 1), (190, .i2l, 1), (191, .lmul, 1), (192, .ladd, 1), (193, .lastore, 1), (194, .iinc 1 1, 3), (197, .goto (-174), 3), (200, .aload_n 0, 1), (201, .invokevirtual 394, 3), (204, .lstore_n 1, 1), (205, .iconst 0, 1), (206, .istore_n 3, 1), (207, .iload_n 3, 1), (208, .bipush 6, 2), (210, .if_icmp .ge 19, 3), (213, .aload_n 0, 1), (214, .getfield 92, 3), (217, .iload_n 3, 1), (218, .dup2, 1), (219, .laload, 1), (220, .lload_n 1, 1), (221, .ldiv, 1), (222, .lastore, 1), (223, .iinc 3 1, 3), (226, .goto (-19), 3), (229, .return_, 1)] = true := by decide +kernel
theorem E272_0 {d sl : Nat} {p : Nat → Nat} {I : Nat → Nat → Int32} {J : Nat → Nat → Int64}   : den d 272 [.ref 46] (S sl p I J) = ev d 272 2 [.ref 46, .int 0, .retAddr 0, .retAddr 0] [] (S sl p I J) := by
  refine (show den d 272 [.ref 46] (S sl p I J) = ev d 272 0 [.ref 46, .retAddr 0, .retAddr 0, .retAddr 0] [] (S sl p I J) from rfl).trans ?_
  refine (r_ic (dk D272 0 rfl) ci0).trans ?_
  refine (r_isn (L' := [.ref 46, .int 0, .retAddr 0, .retAddr 0]) (dk D272 1 rfl) (Nat.le_of_ble_eq_true rfl) rfl).trans ?_
  exact rfl
theorem E272_2 {d sl : Nat} {p : Nat → Nat} {I : Nat → Nat → Int32} {J : Nat → Nat → Int64} (l1 : Int32)  : ev d 272 2 [.ref 46, .int l1, .retAddr 0, .retAddr 0] [] (S sl p I J) = (if l1 < 6 then ck (ixb 6 l1) (ev d 272 2 [.ref 46, .int (l1 + 1), .retAddr 0, .retAddr 0] [] (S sl p I (up2 J 68 (Int32.toNatClampNeg l1) 0))) else ev d 272 23 [.ref 46, .int 0, .retAddr 0, .retAddr 0] [] (S sl p I J)) := by
  refine (r_iln (dk D272 2 rfl) rfl).trans ?_
  refine (r_bp (dk D272 3 rfl) cb6).trans ?_
  refine (r_ge (dk D272 4 rfl) rfl).trans (ite2 ?_ ?_)
  · refine (r_aln (dk D272 5 rfl) rfl).trans ?_
    refine (r_getR (dk D272 6 rfl) ow272 q12_92 ob_46 rfl).trans ?_
    refine (r_iln (dk D272 7 rfl) rfl).trans ?_
    refine (r_lc (dk D272 8 rfl) cl0).trans ?_
    refine (r_jst (dk D272 9 rfl) ar_68).trans (ck3 fun g1 => ?_)
    refine (r_inc (L' := [.ref 46, .int (l1 + 1), .retAddr 0, .retAddr 0]) (dk D272 10 rfl) rfl rfl ci1 (Nat.le_of_ble_eq_true rfl) rfl).trans ?_
    refine (r_goto (L' := [.ref 46, .int (l1 + 1), .retAddr 0, .retAddr 0]) (dk D272 11 rfl) rfl nd272_2 rfl).trans ?_
    exact rfl
  · refine (r_ic (dk D272 12 rfl) ci0).trans ?_
    refine (r_isn (L' := [.ref 46, .int 0, .retAddr 0, .retAddr 0]) (dk D272 13 rfl) (Nat.le_of_ble_eq_true rfl) rfl).trans ?_
    exact rfl
theorem E272_23 {d sl : Nat} {p : Nat → Nat} {I : Nat → Nat → Int32} {J : Nat → Nat → Int64} (l1 : Int32)  : ev (d + 1) 272 23 [.ref 46, .int l1, .retAddr 0, .retAddr 0] [] (S sl p I J) = (if l1 < (I 46 2) then evK (d + 1) 272 36 [.ref 46, .int l1, .retAddr 0, .retAddr 0] [] (den d 197 [.ref 46, .int l1] (S sl p I J)) else evK (d + 1) 272 204 [.ref 46, .int l1, .retAddr 0, .retAddr 0] [] (den d 267 [.ref 46] (S sl p I J))) := by
  refine (r_iln (dk D272 14 rfl) rfl).trans ?_
  refine (r_aln (dk D272 15 rfl) rfl).trans ?_
  refine (r_getI (dk D272 16 rfl) ow272 q12_196 ob_46).trans ?_
  refine (r_ge (dk D272 17 rfl) rfl).trans (ite2 ?_ ?_)
  · refine (r_aln (dk D272 18 rfl) rfl).trans ?_
    refine (r_iln (dk D272 19 rfl) rfl).trans ?_
    exact r_cv (dk D272 20 rfl) ow272 c12_266 mf197 (Nat.le_of_ble_eq_true rfl) rfl rfl (Nat.le_of_ble_eq_true rfl) (Nat.le_of_ble_eq_true rfl) ob_46
  · refine (r_aln (dk D272 145 rfl) rfl).trans ?_
    exact r_cv (dk D272 146 rfl) ow272 c12_394 mf267 (Nat.le_of_ble_eq_true rfl) rfl rfl (Nat.le_of_ble_eq_true rfl) (Nat.le_of_ble_eq_true rfl) ob_46
theorem E272_36 {d sl : Nat} {p : Nat → Nat} {I : Nat → Nat → Int32} {J : Nat → Nat → Int64} (l1 : Int32) (s0 : Int32)  : ev d 272 36 [.ref 46, .int l1, .retAddr 0, .retAddr 0] [.int s0] (S sl p I J) = ck (ixb 60 l1) (ck (ixb 60 l1) (ck (ixb 60 l1) (ck (ixb 60 l1) (ck (ixb 60 l1) (ck (ixb 60 l1) (ck (ixb 60 l1) (ck (ixb 60 l1) (ck (ixb 60 l1) (ck (ixb 60 l1) (ck (ixb 60 l1) (ck (ixb 60 l1) (ev d 272 23 [.ref 46, .int (l1 + 1), .retAddr 0, .retAddr 0] [] (S sl p I (up2 (up2 (up2 (up2 (up2 (up2 J 68 0 ((J 68 0) + (((Int32.toInt64 s0) * (Int32.toInt64 (I 54 (Int32.toNatClampNeg l1)))) * (Int32.toInt64 (I 54 (Int32.toNatClampNeg l1)))))) 68 1 (((up2 J 68 0 ((J 68 0) + (((Int32.toInt64 s0) * (Int32.toInt64 (I 54 (Int32.toNatClampNeg l1)))) * (Int32.toInt64 (I 54 (Int32.toNatClampNeg l1)))))) 68 1) + (((Int32.toInt64 s0) * (Int32.toInt64 (I 55 (Int32.toNatClampNeg l1)))) * (Int32.toInt64 (I 55 (Int32.toNatClampNeg l1)))))) 68 2 (((up2 (up2 J 68 0 ((J 68 0) + (((Int32.toInt64 s0) * (Int32.toInt64 (I 54 (Int32.toNatClampNeg l1)))) * (Int32.toInt64 (I 54 (Int32.toNatClampNeg l1)))))) 68 1 (((up2 J 68 0 ((J 68 0) + (((Int32.toInt64 s0) * (Int32.toInt64 (I 54 (Int32.toNatClampNeg l1)))) * (Int32.toInt64 (I 54 (Int32.toNatClampNeg l1)))))) 68 1) + (((Int32.toInt64 s0) * (Int32.toInt64 (I 55 (Int32.toNatClampNeg l1)))) * (Int32.toInt64 (I 55 (Int32.toNatClampNeg l1)))))) 68 2) + (((Int32.toInt64 s0) * (Int32.toInt64 (I 56 (Int32.toNatClampNeg l1)))) * (Int32.toInt64 (I 56 (Int32.toNatClampNeg l1)))))) 68 3 (((up2 (up2 (up2 J 68 0 ((J 68 0) + (((Int32.toInt64 s0) * (Int32.toInt64 (I 54 (Int32.toNatClampNeg l1)))) * (Int32.toInt64 (I 54 (Int32.toNatClampNeg l1)))))) 68 1 (((up2 J 68 0 ((J 68 0) + (((Int32.toInt64 s0) * (Int32.toInt64 (I 54 (Int32.toNatClampNeg l1)))) * (Int32.toInt64 (I 54 (Int32.toNatClampNeg l1)))))) 68 1) + (((Int32.toInt64 s0) * (Int32.toInt64 (I 55 (Int32.toNatClampNeg l1)))) * (Int32.toInt64 (I 55 (Int32.toNatClampNeg l1)))))) 68 2 (((up2 (up2 J 68 0 ((J 68 0) + (((Int32.toInt64 s0) * (Int32.toInt64 (I 54 (Int32.toNatClampNeg l1)))) * (Int32.toInt64 (I 54 (Int32.toNatClampNeg l1)))))) 68 1 (((up2 J 68 0 ((J 68 0) + (((Int32.toInt64 s0) * (Int32.toInt64 (I 54 (Int32.toNatClampNeg l1)))) * (Int32.toInt64 (I 54 (Int32.toNatClampNeg l1)))))) 68 1) + (((Int32.toInt64 s0) * (Int32.toInt64 (I 55 (Int32.toNatClampNeg l1)))) * (Int32.toInt64 (I 55 (Int32.toNatClampNeg l1)))))) 68 2) + (((Int32.toInt64 s0) * (Int32.toInt64 (I 56 (Int32.toNatClampNeg l1)))) * (Int32.toInt64 (I 56 (Int32.toNatClampNeg l1)))))) 68 3) + (((Int32.toInt64 s0) * (Int32.toInt64 (I 54 (Int32.toNatClampNeg l1)))) * (Int32.toInt64 (I 55 (Int32.toNatClampNeg l1)))))) 68 4 (((up2 (up2 (up2 (up2 J 68 0 ((J 68 0) + (((Int32.toInt64 s0) * (Int32.toInt64 (I 54 (Int32.toNatClampNeg l1)))) * (Int32.toInt64 (I 54 (Int32.toNatClampNeg l1)))))) 68 1 (((up2 J 68 0 ((J 68 0) + (((Int32.toInt64 s0) * (Int32.toInt64 (I 54 (Int32.toNatClampNeg l1)))) * (Int32.toInt64 (I 54 (Int32.toNatClampNeg l1)))))) 68 1) + (((Int32.toInt64 s0) * (Int32.toInt64 (I 55 (Int32.toNatClampNeg l1)))) * (Int32.toInt64 (I 55 (Int32.toNatClampNeg l1)))))) 68 2 (((up2 (up2 J 68 0 ((J 68 0) + (((Int32.toInt64 s0) * (Int32.toInt64 (I 54 (Int32.toNatClampNeg l1)))) * (Int32.toInt64 (I 54 (Int32.toNatClampNeg l1)))))) 68 1 (((up2 J 68 0 ((J 68 0) + (((Int32.toInt64 s0) * (Int32.toInt64 (I 54 (Int32.toNatClampNeg l1)))) * (Int32.toInt64 (I 54 (Int32.toNatClampNeg l1)))))) 68 1) + (((Int32.toInt64 s0) * (Int32.toInt64 (I 55 (Int32.toNatClampNeg l1)))) * (Int32.toInt64 (I 55 (Int32.toNatClampNeg l1)))))) 68 2) + (((Int32.toInt64 s0) * (Int32.toInt64 (I 56 (Int32.toNatClampNeg l1)))) * (Int32.toInt64 (I 56 (Int32.toNatClampNeg l1)))))) 68 3 (((up2 (up2 (up2 J 68 0 ((J 68 0) + (((Int32.toInt64 s0) * (Int32.toInt64 (I 54 (Int32.toNatClampNeg l1)))) * (Int32.toInt64 (I 54 (Int32.toNatClampNeg l1)))))) 68 1 (((up2 J 68 0 ((J 68 0) + (((Int32.toInt64 s0) * (Int32.toInt64 (I 54 (Int32.toNatClampNeg l1)))) * (Int32.toInt64 (I 54 (Int32.toNatClampNeg l1)))))) 68 1) + (((Int32.toInt64 s0) * (Int32.toInt64 (I 55 (Int32.toNatClampNeg l1)))) * (Int32.toInt64 (I 55 (Int32.toNatClampNeg l1)))))) 68 2 (((up2 (up2 J 68 0 ((J 68 0) + (((Int32.toInt64 s0) * (Int32.toInt64 (I 54 (Int32.toNatClampNeg l1)))) * (Int32.toInt64 (I 54 (Int32.toNatClampNeg l1)))))) 68 1 (((up2 J 68 0 ((J 68 0) + (((Int32.toInt64 s0) * (Int32.toInt64 (I 54 (Int32.toNatClampNeg l1)))) * (Int32.toInt64 (I 54 (Int32.toNatClampNeg l1)))))) 68 1) + (((Int32.toInt64 s0) * (Int32.toInt64 (I 55 (Int32.toNatClampNeg l1)))) * (Int32.toInt64 (I 55 (Int32.toNatClampNeg l1)))))) 68 2) + (((Int32.toInt64 s0) * (Int32.toInt64 (I 56 (Int32.toNatClampNeg l1)))) * (Int32.toInt64 (I 56 (Int32.toNatClampNeg l1)))))) 68 3) + (((Int32.toInt64 s0) * (Int32.toInt64 (I 54 (Int32.toNatClampNeg l1)))) * (Int32.toInt64 (I 55 (Int32.toNatClampNeg l1)))))) 68 4) + (((Int32.toInt64 s0) * (Int32.toInt64 (I 54 (Int32.toNatClampNeg l1)))) * (Int32.toInt64 (I 56 (Int32.toNatClampNeg l1)))))) 68 5 (((up2 (up2 (up2 (up2 (up2 J 68 0 ((J 68 0) + (((Int32.toInt64 s0) * (Int32.toInt64 (I 54 (Int32.toNatClampNeg l1)))) * (Int32.toInt64 (I 54 (Int32.toNatClampNeg l1)))))) 68 1 (((up2 J 68 0 ((J 68 0) + (((Int32.toInt64 s0) * (Int32.toInt64 (I 54 (Int32.toNatClampNeg l1)))) * (Int32.toInt64 (I 54 (Int32.toNatClampNeg l1)))))) 68 1) + (((Int32.toInt64 s0) * (Int32.toInt64 (I 55 (Int32.toNatClampNeg l1)))) * (Int32.toInt64 (I 55 (Int32.toNatClampNeg l1)))))) 68 2 (((up2 (up2 J 68 0 ((J 68 0) + (((Int32.toInt64 s0) * (Int32.toInt64 (I 54 (Int32.toNatClampNeg l1)))) * (Int32.toInt64 (I 54 (Int32.toNatClampNeg l1)))))) 68 1 (((up2 J 68 0 ((J 68 0) + (((Int32.toInt64 s0) * (Int32.toInt64 (I 54 (Int32.toNatClampNeg l1)))) * (Int32.toInt64 (I 54 (Int32.toNatClampNeg l1)))))) 68 1) + (((Int32.toInt64 s0) * (Int32.toInt64 (I 55 (Int32.toNatClampNeg l1)))) * (Int32.toInt64 (I 55 (Int32.toNatClampNeg l1)))))) 68 2) + (((Int32.toInt64 s0) * (Int32.toInt64 (I 56 (Int32.toNatClampNeg l1)))) * (Int32.toInt64 (I 56 (Int32.toNatClampNeg l1)))))) 68 3 (((up2 (up2 (up2 J 68 0 ((J 68 0) + (((Int32.toInt64 s0) * (Int32.toInt64 (I 54 (Int32.toNatClampNeg l1)))) * (Int32.toInt64 (I 54 (Int32.toNatClampNeg l1)))))) 68 1 (((up2 J 68 0 ((J 68 0) + (((Int32.toInt64 s0) * (Int32.toInt64 (I 54 (Int32.toNatClampNeg l1)))) * (Int32.toInt64 (I 54 (Int32.toNatClampNeg l1)))))) 68 1) + (((Int32.toInt64 s0) * (Int32.toInt64 (I 55 (Int32.toNatClampNeg l1)))) * (Int32.toInt64 (I 55 (Int32.toNatClampNeg l1)))))) 68 2 (((up2 (up2 J 68 0 ((J 68 0) + (((Int32.toInt64 s0) * (Int32.toInt64 (I 54 (Int32.toNatClampNeg l1)))) * (Int32.toInt64 (I 54 (Int32.toNatClampNeg l1)))))) 68 1 (((up2 J 68 0 ((J 68 0) + (((Int32.toInt64 s0) * (Int32.toInt64 (I 54 (Int32.toNatClampNeg l1)))) * (Int32.toInt64 (I 54 (Int32.toNatClampNeg l1)))))) 68 1) + (((Int32.toInt64 s0) * (Int32.toInt64 (I 55 (Int32.toNatClampNeg l1)))) * (Int32.toInt64 (I 55 (Int32.toNatClampNeg l1)))))) 68 2) + (((Int32.toInt64 s0) * (Int32.toInt64 (I 56 (Int32.toNatClampNeg l1)))) * (Int32.toInt64 (I 56 (Int32.toNatClampNeg l1)))))) 68 3) + (((Int32.toInt64 s0) * (Int32.toInt64 (I 54 (Int32.toNatClampNeg l1)))) * (Int32.toInt64 (I 55 (Int32.toNatClampNeg l1)))))) 68 4 (((up2 (up2 (up2 (up2 J 68 0 ((J 68 0) + (((Int32.toInt64 s0) * (Int32.toInt64 (I 54 (Int32.toNatClampNeg l1)))) * (Int32.toInt64 (I 54 (Int32.toNatClampNeg l1)))))) 68 1 (((up2 J 68 0 ((J 68 0) + (((Int32.toInt64 s0) * (Int32.toInt64 (I 54 (Int32.toNatClampNeg l1)))) * (Int32.toInt64 (I 54 (Int32.toNatClampNeg l1)))))) 68 1) + (((Int32.toInt64 s0) * (Int32.toInt64 (I 55 (Int32.toNatClampNeg l1)))) * (Int32.toInt64 (I 55 (Int32.toNatClampNeg l1)))))) 68 2 (((up2 (up2 J 68 0 ((J 68 0) + (((Int32.toInt64 s0) * (Int32.toInt64 (I 54 (Int32.toNatClampNeg l1)))) * (Int32.toInt64 (I 54 (Int32.toNatClampNeg l1)))))) 68 1 (((up2 J 68 0 ((J 68 0) + (((Int32.toInt64 s0) * (Int32.toInt64 (I 54 (Int32.toNatClampNeg l1)))) * (Int32.toInt64 (I 54 (Int32.toNatClampNeg l1)))))) 68 1) + (((Int32.toInt64 s0) * (Int32.toInt64 (I 55 (Int32.toNatClampNeg l1)))) * (Int32.toInt64 (I 55 (Int32.toNatClampNeg l1)))))) 68 2) + (((Int32.toInt64 s0) * (Int32.toInt64 (I 56 (Int32.toNatClampNeg l1)))) * (Int32.toInt64 (I 56 (Int32.toNatClampNeg l1)))))) 68 3 (((up2 (up2 (up2 J 68 0 ((J 68 0) + (((Int32.toInt64 s0) * (Int32.toInt64 (I 54 (Int32.toNatClampNeg l1)))) * (Int32.toInt64 (I 54 (Int32.toNatClampNeg l1)))))) 68 1 (((up2 J 68 0 ((J 68 0) + (((Int32.toInt64 s0) * (Int32.toInt64 (I 54 (Int32.toNatClampNeg l1)))) * (Int32.toInt64 (I 54 (Int32.toNatClampNeg l1)))))) 68 1) + (((Int32.toInt64 s0) * (Int32.toInt64 (I 55 (Int32.toNatClampNeg l1)))) * (Int32.toInt64 (I 55 (Int32.toNatClampNeg l1)))))) 68 2 (((up2 (up2 J 68 0 ((J 68 0) + (((Int32.toInt64 s0) * (Int32.toInt64 (I 54 (Int32.toNatClampNeg l1)))) * (Int32.toInt64 (I 54 (Int32.toNatClampNeg l1)))))) 68 1 (((up2 J 68 0 ((J 68 0) + (((Int32.toInt64 s0) * (Int32.toInt64 (I 54 (Int32.toNatClampNeg l1)))) * (Int32.toInt64 (I 54 (Int32.toNatClampNeg l1)))))) 68 1) + (((Int32.toInt64 s0) * (Int32.toInt64 (I 55 (Int32.toNatClampNeg l1)))) * (Int32.toInt64 (I 55 (Int32.toNatClampNeg l1)))))) 68 2) + (((Int32.toInt64 s0) * (Int32.toInt64 (I 56 (Int32.toNatClampNeg l1)))) * (Int32.toInt64 (I 56 (Int32.toNatClampNeg l1)))))) 68 3) + (((Int32.toInt64 s0) * (Int32.toInt64 (I 54 (Int32.toNatClampNeg l1)))) * (Int32.toInt64 (I 55 (Int32.toNatClampNeg l1)))))) 68 4) + (((Int32.toInt64 s0) * (Int32.toInt64 (I 54 (Int32.toNatClampNeg l1)))) * (Int32.toInt64 (I 56 (Int32.toNatClampNeg l1)))))) 68 5) + (((Int32.toInt64 s0) * (Int32.toInt64 (I 55 (Int32.toNatClampNeg l1)))) * (Int32.toInt64 (I 56 (Int32.toNatClampNeg l1))))))))))))))))))) := by
  refine (r_i2l (dk D272 21 rfl)).trans ?_
  refine (r_lsn (L' := [.ref 46, .int l1, .long (Int32.toInt64 s0), .retAddr 0]) (dk D272 22 rfl) (Nat.le_of_ble_eq_true rfl) rfl).trans ?_
  refine (r_aln (dk D272 23 rfl) rfl).trans ?_
  refine (r_getR (dk D272 24 rfl) ow272 q12_92 ob_46 rfl).trans ?_
  refine (r_ic (dk D272 25 rfl) ci0).trans ?_
  refine (r_dup2 (dk D272 26 rfl) rfl rfl).trans ?_
  refine (r_jldc (dk D272 27 rfl) ar_68 rfl rfl).trans ?_
  refine (r_lln (dk D272 28 rfl) rfl).trans ?_
  refine (r_aln (dk D272 29 rfl) rfl).trans ?_
  refine (r_getR (dk D272 30 rfl) ow272 q12_50 ob_46 rfl).trans ?_
  refine (r_iln (dk D272 31 rfl) rfl).trans ?_
  refine (r_ild (dk D272 32 rfl) ar_54).trans (ck3 fun g1 => ?_)
  refine (r_i2l (dk D272 33 rfl)).trans ?_
  refine (r_lmul (dk D272 34 rfl)).trans ?_
  refine (r_aln (dk D272 35 rfl) rfl).trans ?_
  refine (r_getR (dk D272 36 rfl) ow272 q12_50 ob_46 rfl).trans ?_
  refine (r_iln (dk D272 37 rfl) rfl).trans ?_
  refine (r_ild (dk D272 38 rfl) ar_54).trans (ck3 fun g2 => ?_)
  refine (r_i2l (dk D272 39 rfl)).trans ?_
  refine (r_lmul (dk D272 40 rfl)).trans ?_
  refine (r_ladd (dk D272 41 rfl)).trans ?_
  refine (r_jstc (dk D272 42 rfl) ar_68 rfl rfl).trans ?_
  refine (r_aln (dk D272 43 rfl) rfl).trans ?_
  refine (r_getR (dk D272 44 rfl) ow272 q12_92 ob_46 rfl).trans ?_
  refine (r_ic (dk D272 45 rfl) ci1).trans ?_
  refine (r_dup2 (dk D272 46 rfl) rfl rfl).trans ?_
  refine (r_jldc (dk D272 47 rfl) ar_68 rfl rfl).trans ?_
  refine (r_lln (dk D272 48 rfl) rfl).trans ?_
  refine (r_aln (dk D272 49 rfl) rfl).trans ?_
  refine (r_getR (dk D272 50 rfl) ow272 q12_53 ob_46 rfl).trans ?_
  refine (r_iln (dk D272 51 rfl) rfl).trans ?_
  refine (r_ild (dk D272 52 rfl) ar_55).trans (ck3 fun g3 => ?_)
  refine (r_i2l (dk D272 53 rfl)).trans ?_
  refine (r_lmul (dk D272 54 rfl)).trans ?_
  refine (r_aln (dk D272 55 rfl) rfl).trans ?_
  refine (r_getR (dk D272 56 rfl) ow272 q12_53 ob_46 rfl).trans ?_
  refine (r_iln (dk D272 57 rfl) rfl).trans ?_
  refine (r_ild (dk D272 58 rfl) ar_55).trans (ck3 fun g4 => ?_)
  refine (r_i2l (dk D272 59 rfl)).trans ?_
  refine (r_lmul (dk D272 60 rfl)).trans ?_
  refine (r_ladd (dk D272 61 rfl)).trans ?_
  refine (r_jstc (dk D272 62 rfl) ar_68 rfl rfl).trans ?_
  refine (r_aln (dk D272 63 rfl) rfl).trans ?_
  refine (r_getR (dk D272 64 rfl) ow272 q12_92 ob_46 rfl).trans ?_
  refine (r_ic (dk D272 65 rfl) ci2).trans ?_
  refine (r_dup2 (dk D272 66 rfl) rfl rfl).trans ?_
  refine (r_jldc (dk D272 67 rfl) ar_68 rfl rfl).trans ?_
  refine (r_lln (dk D272 68 rfl) rfl).trans ?_
  refine (r_aln (dk D272 69 rfl) rfl).trans ?_
  refine (r_getR (dk D272 70 rfl) ow272 q12_56 ob_46 rfl).trans ?_
  refine (r_iln (dk D272 71 rfl) rfl).trans ?_
  refine (r_ild (dk D272 72 rfl) ar_56).trans (ck3 fun g5 => ?_)
  refine (r_i2l (dk D272 73 rfl)).trans ?_
  refine (r_lmul (dk D272 74 rfl)).trans ?_
  refine (r_aln (dk D272 75 rfl) rfl).trans ?_
  refine (r_getR (dk D272 76 rfl) ow272 q12_56 ob_46 rfl).trans ?_
  refine (r_iln (dk D272 77 rfl) rfl).trans ?_
  refine (r_ild (dk D272 78 rfl) ar_56).trans (ck3 fun g6 => ?_)
  refine (r_i2l (dk D272 79 rfl)).trans ?_
  refine (r_lmul (dk D272 80 rfl)).trans ?_
  refine (r_ladd (dk D272 81 rfl)).trans ?_
  refine (r_jstc (dk D272 82 rfl) ar_68 rfl rfl).trans ?_
  refine (r_aln (dk D272 83 rfl) rfl).trans ?_
  refine (r_getR (dk D272 84 rfl) ow272 q12_92 ob_46 rfl).trans ?_
  refine (r_ic (dk D272 85 rfl) ci3).trans ?_
  refine (r_dup2 (dk D272 86 rfl) rfl rfl).trans ?_
  refine (r_jldc (dk D272 87 rfl) ar_68 rfl rfl).trans ?_
  refine (r_lln (dk D272 88 rfl) rfl).trans ?_
  refine (r_aln (dk D272 89 rfl) rfl).trans ?_
  refine (r_getR (dk D272 90 rfl) ow272 q12_50 ob_46 rfl).trans ?_
  refine (r_iln (dk D272 91 rfl) rfl).trans ?_
  refine (r_ild (dk D272 92 rfl) ar_54).trans (ck3 fun g7 => ?_)
  refine (r_i2l (dk D272 93 rfl)).trans ?_
  refine (r_lmul (dk D272 94 rfl)).trans ?_
  refine (r_aln (dk D272 95 rfl) rfl).trans ?_
  refine (r_getR (dk D272 96 rfl) ow272 q12_53 ob_46 rfl).trans ?_
  refine (r_iln (dk D272 97 rfl) rfl).trans ?_
  refine (r_ild (dk D272 98 rfl) ar_55).trans (ck3 fun g8 => ?_)
  refine (r_i2l (dk D272 99 rfl)).trans ?_
  refine (r_lmul (dk D272 100 rfl)).trans ?_
  refine (r_ladd (dk D272 101 rfl)).trans ?_
  refine (r_jstc (dk D272 102 rfl) ar_68 rfl rfl).trans ?_
  refine (r_aln (dk D272 103 rfl) rfl).trans ?_
  refine (r_getR (dk D272 104 rfl) ow272 q12_92 ob_46 rfl).trans ?_
  refine (r_ic (dk D272 105 rfl) ci4).trans ?_
  refine (r_dup2 (dk D272 106 rfl) rfl rfl).trans ?_
  refine (r_jldc (dk D272 107 rfl) ar_68 rfl rfl).trans ?_
  refine (r_lln (dk D272 108 rfl) rfl).trans ?_
  refine (r_aln (dk D272 109 rfl) rfl).trans ?_
  refine (r_getR (dk D272 110 rfl) ow272 q12_50 ob_46 rfl).trans ?_
  refine (r_iln (dk D272 111 rfl) rfl).trans ?_
  refine (r_ild (dk D272 112 rfl) ar_54).trans (ck3 fun g9 => ?_)
  refine (r_i2l (dk D272 113 rfl)).trans ?_
  refine (r_lmul (dk D272 114 rfl)).trans ?_
  refine (r_aln (dk D272 115 rfl) rfl).trans ?_
  refine (r_getR (dk D272 116 rfl) ow272 q12_56 ob_46 rfl).trans ?_
  refine (r_iln (dk D272 117 rfl) rfl).trans ?_
  refine (r_ild (dk D272 118 rfl) ar_56).trans (ck3 fun g10 => ?_)
  refine (r_i2l (dk D272 119 rfl)).trans ?_
  refine (r_lmul (dk D272 120 rfl)).trans ?_
  refine (r_ladd (dk D272 121 rfl)).trans ?_
  refine (r_jstc (dk D272 122 rfl) ar_68 rfl rfl).trans ?_
  refine (r_aln (dk D272 123 rfl) rfl).trans ?_
  refine (r_getR (dk D272 124 rfl) ow272 q12_92 ob_46 rfl).trans ?_
  refine (r_ic (dk D272 125 rfl) ci5).trans ?_
  refine (r_dup2 (dk D272 126 rfl) rfl rfl).trans ?_
  refine (r_jldc (dk D272 127 rfl) ar_68 rfl rfl).trans ?_
  refine (r_lln (dk D272 128 rfl) rfl).trans ?_
  refine (r_aln (dk D272 129 rfl) rfl).trans ?_
  refine (r_getR (dk D272 130 rfl) ow272 q12_53 ob_46 rfl).trans ?_
  refine (r_iln (dk D272 131 rfl) rfl).trans ?_
  refine (r_ild (dk D272 132 rfl) ar_55).trans (ck3 fun g11 => ?_)
  refine (r_i2l (dk D272 133 rfl)).trans ?_
  refine (r_lmul (dk D272 134 rfl)).trans ?_
  refine (r_aln (dk D272 135 rfl) rfl).trans ?_
  refine (r_getR (dk D272 136 rfl) ow272 q12_56 ob_46 rfl).trans ?_
  refine (r_iln (dk D272 137 rfl) rfl).trans ?_
  refine (r_ild (dk D272 138 rfl) ar_56).trans (ck3 fun g12 => ?_)
  refine (r_i2l (dk D272 139 rfl)).trans ?_
  refine (r_lmul (dk D272 140 rfl)).trans ?_
  refine (r_ladd (dk D272 141 rfl)).trans ?_
  refine (r_jstc (dk D272 142 rfl) ar_68 rfl rfl).trans ?_
  refine (r_inc (L' := [.ref 46, .int (l1 + 1), .long (Int32.toInt64 s0), .retAddr 0]) (dk D272 143 rfl) rfl rfl ci1 (Nat.le_of_ble_eq_true rfl) rfl).trans ?_
  refine (r_goto (L' := [.ref 46, .int (l1 + 1), .retAddr 0, .retAddr 0]) (dk D272 144 rfl) rfl nd272_23 rfl).trans ?_
  exact rfl
theorem E272_204 {d sl : Nat} {p : Nat → Nat} {I : Nat → Nat → Int32} {J : Nat → Nat → Int64} (l1 : Int32) (s0 : Int64)  : ev d 272 204 [.ref 46, .int l1, .retAddr 0, .retAddr 0] [.long s0] (S sl p I J) = ev d 272 207 [.ref 46, .long s0, .retAddr 0, .int 0] [] (S sl p I J) := by
  refine (r_lsn (L' := [.ref 46, .long s0, .retAddr 0, .retAddr 0]) (dk D272 147 rfl) (Nat.le_of_ble_eq_true rfl) rfl).trans ?_
  refine (r_ic (dk D272 148 rfl) ci0).trans ?_
  refine (r_isn (L' := [.ref 46, .long s0, .retAddr 0, .int 0]) (dk D272 149 rfl) (Nat.le_of_ble_eq_true rfl) rfl).trans ?_
  exact rfl
theorem E272_207 {d sl : Nat} {p : Nat → Nat} {I : Nat → Nat → Int32} {J : Nat → Nat → Int64} (l1 : Int64) (l3 : Int32)  : ev d 272 207 [.ref 46, .long l1, .retAddr 0, .int l3] [] (S sl p I J) = (if l3 < 6 then ck (ixb 6 l3) (ck (!decide (l1 = 0)) (ck (ixb 6 l3) (ev d 272 207 [.ref 46, .long l1, .retAddr 0, .int (l3 + 1)] [] (S sl p I (up2 J 68 (Int32.toNatClampNeg l3) ((J 68 (Int32.toNatClampNeg l3)) / l1)))))) else some (none, (S sl p I J))) := by
  refine (r_iln (dk D272 150 rfl) rfl).trans ?_
  refine (r_bp (dk D272 151 rfl) cb6).trans ?_
  refine (r_ge (dk D272 152 rfl) rfl).trans (ite2 ?_ ?_)
  · refine (r_aln (dk D272 153 rfl) rfl).trans ?_
    refine (r_getR (dk D272 154 rfl) ow272 q12_92 ob_46 rfl).trans ?_
    refine (r_iln (dk D272 155 rfl) rfl).trans ?_
    refine (r_dup2 (dk D272 156 rfl) rfl rfl).trans ?_
    refine (r_jld (dk D272 157 rfl) ar_68).trans (ck3 fun g1 => ?_)
    refine (r_lln (dk D272 158 rfl) rfl).trans ?_
    refine (r_ldivc (dk D272 159 rfl)).trans (ck3 fun g2 => ?_)
    refine (r_jst (dk D272 160 rfl) ar_68).trans (ck3 fun g3 => ?_)
    refine (r_inc (L' := [.ref 46, .long l1, .retAddr 0, .int (l3 + 1)]) (dk D272 161 rfl) rfl rfl ci1 (Nat.le_of_ble_eq_true rfl) rfl).trans ?_
    refine (r_goto (L' := [.ref 46, .long l1, .retAddr 0, .int (l3 + 1)]) (dk D272 162 rfl) rfl nd272_207 rfl).trans ?_
    exact rfl
  · exact r_rev (dk D272 163 rfl) rt272
set_option maxRecDepth 20000 in
theorem D273 : dOK 273 [(0, .iload_n 1, 1), (1, .iconst 0, 1), (2, .iconst 5, 1), (3, .invokestatic 178, 3), (6, .ifCond .ne 9, 3), (9, .aload_n 0, 1), (10, .iconst 1, 1), (11, .invokevirtual 183, 3), (14, .ireturn, 1), (15, .aload_n 0, 1), (16, .getfield 196, 3), (19, .ifCond .ne 9, 3), (22, .aload_n 0, 1), (23, .iconst 5, 1), (24, .invokevirtual 183, 3), (27, .ireturn, 1), (28, .aload_n 0, 1), (29, .invokevirtual 397, 3), (32, .aload_n 0, 1), (33, .aload_n 0, 1), (34, .getfield 92, 3), (37, .iload_n 1, 1), (38, .laload, 1), (39, .l2i, 1), (40, .invokevirtual 193, 3), (43, .ireturn, 1)] = true := by decide +kernel
theorem E273_0 {d sl : Nat} {p : Nat → Nat} {I : Nat → Nat → Int32} {J : Nat → Nat → Int64} (a1 : Int32)  : den (d + 1) 273 [.ref 46, .int a1] (S sl p I J) = evK (d + 1) 273 6 [.ref 46, .int a1] [] (den d 181 [.int a1, .int 0, .int 5] (S sl p I J)) := by
  refine (show den (d + 1) 273 [.ref 46, .int a1] (S sl p I J) = ev (d + 1) 273 0 [.ref 46, .int a1] [] (S sl p I J) from rfl).trans ?_
  refine (r_iln (dk D273 0 rfl) rfl).trans ?_
  refine (r_ic (dk D273 1 rfl) ci0).trans ?_
  refine (r_ic (dk D273 2 rfl) ci5).trans ?_
  exact r_cs (dk D273 3 rfl) ow273 pn12_178 c12_178 mf181 (Nat.le_of_ble_eq_true rfl) rfl rfl (Nat.le_of_ble_eq_true rfl) (Nat.le_of_ble_eq_true rfl)
theorem E273_6 {d sl : Nat} {p : Nat → Nat} {I : Nat → Nat → Int32} {J : Nat → Nat → Int64} (l1 : Int32) (s0 : Int32)  : ev (d + 1) 273 6 [.ref 46, .int l1] [.int s0] (S sl p I J) = (if s0 = 0 then evK (d + 1) 273 14 [.ref 46, .int l1] [] (den d 178 [.ref 46, .int 1] (S sl p I J)) else (if (I 46 2) = 0 then evK (d + 1) 273 27 [.ref 46, .int l1] [] (den d 178 [.ref 46, .int 5] (S sl p I J)) else evK (d + 1) 273 32 [.ref 46, .int l1] [] (den d 272 [.ref 46] (S sl p I J)))) := by
  refine (r_ne0 (dk D273 4 rfl) rfl).trans (ite2 ?_ ?_)
  · refine (r_aln (dk D273 5 rfl) rfl).trans ?_
    refine (r_ic (dk D273 6 rfl) ci1).trans ?_
    exact r_cv (dk D273 7 rfl) ow273 c12_183 mf178 (Nat.le_of_ble_eq_true rfl) rfl rfl (Nat.le_of_ble_eq_true rfl) (Nat.le_of_ble_eq_true rfl) ob_46
  · refine (r_aln (dk D273 9 rfl) rfl).trans ?_
    refine (r_getI (dk D273 10 rfl) ow273 q12_196 ob_46).trans ?_
    refine (r_ne0 (dk D273 11 rfl) rfl).trans (ite2 ?_ ?_)
    · refine (r_aln (dk D273 12 rfl) rfl).trans ?_
      refine (r_ic (dk D273 13 rfl) ci5).trans ?_
      exact r_cv (dk D273 14 rfl) ow273 c12_183 mf178 (Nat.le_of_ble_eq_true rfl) rfl rfl (Nat.le_of_ble_eq_true rfl) (Nat.le_of_ble_eq_true rfl) ob_46
    · refine (r_aln (dk D273 16 rfl) rfl).trans ?_
      exact r_cv (dk D273 17 rfl) ow273 c12_397 mf272 (Nat.le_of_ble_eq_true rfl) rfl rfl (Nat.le_of_ble_eq_true rfl) (Nat.le_of_ble_eq_true rfl) ob_46
theorem E273_14 {d sl : Nat} {p : Nat → Nat} {I : Nat → Nat → Int32} {J : Nat → Nat → Int64} (l1 : Int32) (s0 : Int32)  : ev d 273 14 [.ref 46, .int l1] [.int s0] (S sl p I J) = some (some (.int s0), (S sl p I J)) := by
  exact r_ret (dk D273 8 rfl) rt273
theorem E273_27 {d sl : Nat} {p : Nat → Nat} {I : Nat → Nat → Int32} {J : Nat → Nat → Int64} (l1 : Int32) (s0 : Int32)  : ev d 273 27 [.ref 46, .int l1] [.int s0] (S sl p I J) = some (some (.int s0), (S sl p I J)) := by
  exact r_ret (dk D273 15 rfl) rt273
theorem E273_32 {d sl : Nat} {p : Nat → Nat} {I : Nat → Nat → Int32} {J : Nat → Nat → Int64} (l1 : Int32)  : ev (d + 1) 273 32 [.ref 46, .int l1] [] (S sl p I J) = ck (ixb 6 l1) (evK (d + 1) 273 43 [.ref 46, .int l1] [] (den d 179 [.ref 46, .int (Int64.toInt32 (J 68 (Int32.toNatClampNeg l1)))] (S sl p I J))) := by
  refine (r_aln (dk D273 18 rfl) rfl).trans ?_
  refine (r_aln (dk D273 19 rfl) rfl).trans ?_
  refine (r_getR (dk D273 20 rfl) ow273 q12_92 ob_46 rfl).trans ?_
  refine (r_iln (dk D273 21 rfl) rfl).trans ?_
  refine (r_jld (dk D273 22 rfl) ar_68).trans (ck3 fun g1 => ?_)
  refine (r_l2i (dk D273 23 rfl)).trans ?_
  exact r_cv (dk D273 24 rfl) ow273 c12_193 mf179 (Nat.le_of_ble_eq_true rfl) rfl rfl (Nat.le_of_ble_eq_true rfl) (Nat.le_of_ble_eq_true rfl) ob_46
theorem E273_43 {d sl : Nat} {p : Nat → Nat} {I : Nat → Nat → Int32} {J : Nat → Nat → Int64} (l1 : Int32) (s0 : Int32)  : ev d 273 43 [.ref 46, .int l1] [.int s0] (S sl p I J) = some (some (.int s0), (S sl p I J)) := by
  exact r_ret (dk D273 25 rfl) rt273
set_option maxRecDepth 20000 in
theorem D274 : dOK 274 [(0, .aload_n 0, 1), (1, .getfield 92, 3), (4, .iconst 0, 1), (5, .laload, 1), (6, .aload_n 0, 1), (7, .getfield 127, 3), (10, .i2l, 1), (11, .lmul, 1), (12, .aload_n 0, 1), (13, .getfield 127, 3), (16, .i2l, 1), (17, .lmul, 1), (18, .aload_n 0, 1), (19, .getfield 92, 3), (22, .iconst 1, 1), (23, .laload, 1), (24, .aload_n 0, 1), (25, .getfield 130, 3), (28, .i2l, 1), (29, .lmul, 1), (30, .aload_n 0, 1), (31, .getfield 130, 3), (34, .i2l, 1), (35, .lmul, 1), (36, .ladd, 1), (37, .aload_n 0, 1), (38, .getfield 92, 3), (41, .iconst 2, 1), (42, .laload, 1), (43, .aload_n 0, 1), (44, .getfield 133, 3), (47, .i2l, 1), (48, .lmul, 1), (49, .aload_n 0, 1), (50, .getfield 133, 3), (53, .i2l, 1), (54, .lmul, 1), (55, .ladd, 1), (56, .ldc2_w 118, 3), (59, .aload_n 0, 1), (60, .getfield 92, 3), (63, .iconst 3, 1), (64, .laload, 1), (65, .aload_n 0, 1), (66, .getfield 127, 3), (69, .i2l, 1), (70, .lmul, 1), (71, .aload_n 0, 1), (72, .getfield 130, 3), (75, .i2l, 1), (76, .lmul, 1), (77, .aload_n 0, 1), (78, .getfield 92, 3), (81, .iconst 4, 1), (82, .laload, 1), (83, .aload_n 0, 1), (84, .getfield 127, 3), (87, .i2l, 1), (88, .lmul, 1), (89, .aload_n 0, 1), (90, .getfield 133, 3), (93, .i2l, 1), (94, .lmul, 1), (95, .ladd, 1), (96, .aload_n 0, 1), (97, .getfield 92, 3), (100, .iconst 5, 1), (101, .laload, 1), (102, .aload_n 0, 1), (103, .getfield 130, 3), (106, .i2l, 1), (107, .lmul, 1), (108, .aload_n 0, 1), (109, .getfield 133, 3), (112, .i2l, 1), (113, .lmul, 1), (114, .ladd, 1), (115, .lmul, 1), (116, .ladd, 1), (117, .lreturn, 1)] = true := by decide +kernel
theorem E274_0 {d sl : Nat} {p : Nat → Nat} {I : Nat → Nat → Int32} {J : Nat → Nat → Int64}   : den d 274 [.ref 46] (S sl p I J) = some (some (.long ((((((J 68 0) * (Int32.toInt64 (I 46 23))) * (Int32.toInt64 (I 46 23))) + (((J 68 1) * (Int32.toInt64 (I 46 24))) * (Int32.toInt64 (I 46 24)))) + (((J 68 2) * (Int32.toInt64 (I 46 25))) * (Int32.toInt64 (I 46 25)))) + (2 * (((((J 68 3) * (Int32.toInt64 (I 46 23))) * (Int32.toInt64 (I 46 24))) + (((J 68 4) * (Int32.toInt64 (I 46 23))) * (Int32.toInt64 (I 46 25)))) + (((J 68 5) * (Int32.toInt64 (I 46 24))) * (Int32.toInt64 (I 46 25))))))), (S sl p I J)) := by
  refine (show den d 274 [.ref 46] (S sl p I J) = ev d 274 0 [.ref 46] [] (S sl p I J) from rfl).trans ?_
  refine (r_aln (dk D274 0 rfl) rfl).trans ?_
  refine (r_getR (dk D274 1 rfl) ow274 q12_92 ob_46 rfl).trans ?_
  refine (r_ic (dk D274 2 rfl) ci0).trans ?_
  refine (r_jldc (dk D274 3 rfl) ar_68 rfl rfl).trans ?_
  refine (r_aln (dk D274 4 rfl) rfl).trans ?_
  refine (r_getI (dk D274 5 rfl) ow274 q12_127 ob_46).trans ?_
  refine (r_i2l (dk D274 6 rfl)).trans ?_
  refine (r_lmul (dk D274 7 rfl)).trans ?_
  refine (r_aln (dk D274 8 rfl) rfl).trans ?_
  refine (r_getI (dk D274 9 rfl) ow274 q12_127 ob_46).trans ?_
  refine (r_i2l (dk D274 10 rfl)).trans ?_
  refine (r_lmul (dk D274 11 rfl)).trans ?_
  refine (r_aln (dk D274 12 rfl) rfl).trans ?_
  refine (r_getR (dk D274 13 rfl) ow274 q12_92 ob_46 rfl).trans ?_
  refine (r_ic (dk D274 14 rfl) ci1).trans ?_
  refine (r_jldc (dk D274 15 rfl) ar_68 rfl rfl).trans ?_
  refine (r_aln (dk D274 16 rfl) rfl).trans ?_
  refine (r_getI (dk D274 17 rfl) ow274 q12_130 ob_46).trans ?_
  refine (r_i2l (dk D274 18 rfl)).trans ?_
  refine (r_lmul (dk D274 19 rfl)).trans ?_
  refine (r_aln (dk D274 20 rfl) rfl).trans ?_
  refine (r_getI (dk D274 21 rfl) ow274 q12_130 ob_46).trans ?_
  refine (r_i2l (dk D274 22 rfl)).trans ?_
  refine (r_lmul (dk D274 23 rfl)).trans ?_
  refine (r_ladd (dk D274 24 rfl)).trans ?_
  refine (r_aln (dk D274 25 rfl) rfl).trans ?_
  refine (r_getR (dk D274 26 rfl) ow274 q12_92 ob_46 rfl).trans ?_
  refine (r_ic (dk D274 27 rfl) ci2).trans ?_
  refine (r_jldc (dk D274 28 rfl) ar_68 rfl rfl).trans ?_
  refine (r_aln (dk D274 29 rfl) rfl).trans ?_
  refine (r_getI (dk D274 30 rfl) ow274 q12_133 ob_46).trans ?_
  refine (r_i2l (dk D274 31 rfl)).trans ?_
  refine (r_lmul (dk D274 32 rfl)).trans ?_
  refine (r_aln (dk D274 33 rfl) rfl).trans ?_
  refine (r_getI (dk D274 34 rfl) ow274 q12_133 ob_46).trans ?_
  refine (r_i2l (dk D274 35 rfl)).trans ?_
  refine (r_lmul (dk D274 36 rfl)).trans ?_
  refine (r_ladd (dk D274 37 rfl)).trans ?_
  refine (r_ld2 (dk D274 38 rfl) ow274 kk12_118).trans ?_
  refine (r_aln (dk D274 39 rfl) rfl).trans ?_
  refine (r_getR (dk D274 40 rfl) ow274 q12_92 ob_46 rfl).trans ?_
  refine (r_ic (dk D274 41 rfl) ci3).trans ?_
  refine (r_jldc (dk D274 42 rfl) ar_68 rfl rfl).trans ?_
  refine (r_aln (dk D274 43 rfl) rfl).trans ?_
  refine (r_getI (dk D274 44 rfl) ow274 q12_127 ob_46).trans ?_
  refine (r_i2l (dk D274 45 rfl)).trans ?_
  refine (r_lmul (dk D274 46 rfl)).trans ?_
  refine (r_aln (dk D274 47 rfl) rfl).trans ?_
  refine (r_getI (dk D274 48 rfl) ow274 q12_130 ob_46).trans ?_
  refine (r_i2l (dk D274 49 rfl)).trans ?_
  refine (r_lmul (dk D274 50 rfl)).trans ?_
  refine (r_aln (dk D274 51 rfl) rfl).trans ?_
  refine (r_getR (dk D274 52 rfl) ow274 q12_92 ob_46 rfl).trans ?_
  refine (r_ic (dk D274 53 rfl) ci4).trans ?_
  refine (r_jldc (dk D274 54 rfl) ar_68 rfl rfl).trans ?_
  refine (r_aln (dk D274 55 rfl) rfl).trans ?_
  refine (r_getI (dk D274 56 rfl) ow274 q12_127 ob_46).trans ?_
  refine (r_i2l (dk D274 57 rfl)).trans ?_
  refine (r_lmul (dk D274 58 rfl)).trans ?_
  refine (r_aln (dk D274 59 rfl) rfl).trans ?_
  refine (r_getI (dk D274 60 rfl) ow274 q12_133 ob_46).trans ?_
  refine (r_i2l (dk D274 61 rfl)).trans ?_
  refine (r_lmul (dk D274 62 rfl)).trans ?_
  refine (r_ladd (dk D274 63 rfl)).trans ?_
  refine (r_aln (dk D274 64 rfl) rfl).trans ?_
  refine (r_getR (dk D274 65 rfl) ow274 q12_92 ob_46 rfl).trans ?_
  refine (r_ic (dk D274 66 rfl) ci5).trans ?_
  refine (r_jldc (dk D274 67 rfl) ar_68 rfl rfl).trans ?_
  refine (r_aln (dk D274 68 rfl) rfl).trans ?_
  refine (r_getI (dk D274 69 rfl) ow274 q12_130 ob_46).trans ?_
  refine (r_i2l (dk D274 70 rfl)).trans ?_
  refine (r_lmul (dk D274 71 rfl)).trans ?_
  refine (r_aln (dk D274 72 rfl) rfl).trans ?_
  refine (r_getI (dk D274 73 rfl) ow274 q12_133 ob_46).trans ?_
  refine (r_i2l (dk D274 74 rfl)).trans ?_
  refine (r_lmul (dk D274 75 rfl)).trans ?_
  refine (r_ladd (dk D274 76 rfl)).trans ?_
  refine (r_lmul (dk D274 77 rfl)).trans ?_
  refine (r_ladd (dk D274 78 rfl)).trans ?_
  exact r_rel (dk D274 79 rfl) rt274
set_option maxRecDepth 20000 in
theorem D275 : dOK 275 [(0, .iload_n 2, 1), (1, .iconst 0, 1), (2, .iconst 1, 1), (3, .invokestatic 178, 3), (6, .ifCond .ne 9, 3), (9, .aload_n 0, 1), (10, .iconst 1, 1), (11, .invokevirtual 183, 3), (14, .ireturn, 1), (15, .aload_n 0, 1), (16, .getfield 196, 3), (19, .ifCond .ne 9, 3), (22, .aload_n 0, 1), (23, .iconst 5, 1), (24, .invokevirtual 183, 3), (27, .ireturn, 1), (28, .aload_n 0, 1), (29, .invokevirtual 397, 3), (32, .aload_n 0, 1), (33, .iconst 0, 1), (34, .iconst 0, 1), (35, .invokevirtual 207, 3), (38, .aload_n 0, 1), (39, .invokevirtual 400, 3), (42, .lstore_n 3, 1), (43, .aload_n 0, 1), (44, .getfield 127, 3), (47, .i2l, 1), (48, .aload_n 0, 1), (49, .getfield 130, 3), (52, .i2l, 1), (53, .aload_n 0, 1), (54, .getfield 133, 3), (57, .i2l, 1), (58, .invokestatic 146, 3), (61, .lstore 5, 2), (63, .iconst 0, 1), (64, .istore 7, 2), (66, .iconst 0, 1), (67, .istore 8, 2), (69, .iconst 1, 1), (70, .istore 9, 2), (72, .iload 9, 2), (74, .bipush 90, 2), (76, .if_icmp .gt 111, 3), (79, .iconst 0, 1), (80, .istore 10, 2), (82, .iload 10, 2), (84, .sipush 360, 3), (87, .if_icmp .ge 94, 3), (90, .aload_n 0, 1), (91, .iload 10, 2), (93, .iload 9, 2), (95, .invokevirtual 207, 3), (98, .aload_n 0, 1), (99, .invokevirtual 400, 3), (102, .lstore 11, 2), (104, .aload_n 0, 1), (105, .getfield 127, 3), (108, .i2l, 1), (109, .aload_n 0, 1), (110, .getfield 130, 3), (113, .i2l, 1), (114, .aload_n 0, 1), (115, .getfield 133, 3), (118, .i2l, 1), (119, .invokestatic 146, 3), (122, .lstore 13, 2), (124, .iload_n 1, 1), (125, .ifCond .eq 19, 3), (128, .lload 11, 2), (130, .lload 5, 2), (132, .lmul, 1), (133, .lload_n 3, 1), (134, .lload 13, 2), (136, .lmul, 1), (137, .lcmp, 1), (138, .ifCond .gt 22, 3), (141, .goto 34, 3), (144, .lload 11, 2), (146, .lload 5, 2), (148, .lmul, 1), (149, .lload_n 3, 1), (150, .lload 13, 2), (152, .lmul, 1), (153, .lcmp, 1), (154, .ifCond .lt 6, 3), (157, .goto 18, 3), (160, .lload 11, 2), (162, .lstore_n 3, 1), (163, .lload 13, 2), (165, .lstore 5, 2), (167, .iload 9, 2), (169, .istore 7, 2), (171, .iload 10, 2), (173, .istore 8, 2), (175, .iinc 10 1, 3), (178, .goto (-96), 3), (181, .iinc 9 1, 3), (184, .goto (-112), 3), (187, .aload_n 0, 1), (188, .iload_n 2, 1), (189, .ifCond .ne 13, 3), (192, .iload 8, 2), (194, .iload 7, 2), (196, .invokestatic 120, 3), (199, .goto 5, 3), (202, .iload 7, 2), (204, .invokevirtual 193, 3), (207, .ireturn, 1)] = true := by decide +kernel
theorem E275_0 {d sl : Nat} {p : Nat → Nat} {I : Nat → Nat → Int32} {J : Nat → Nat → Int64} (a1 : Int32) (a2 : Int32)  : den (d + 1) 275 [.ref 46, .int a1, .int a2] (S sl p I J) = evK (d + 1) 275 6 [.ref 46, .int a1, .int a2, .retAddr 0, .retAddr 0, .retAddr 0, .retAddr 0, .retAddr 0, .retAddr 0, .retAddr 0, .retAddr 0, .retAddr 0, .retAddr 0, .retAddr 0, .retAddr 0] [] (den d 181 [.int a2, .int 0, .int 1] (S sl p I J)) := by
  refine (show den (d + 1) 275 [.ref 46, .int a1, .int a2] (S sl p I J) = ev (d + 1) 275 0 [.ref 46, .int a1, .int a2, .retAddr 0, .retAddr 0, .retAddr 0, .retAddr 0, .retAddr 0, .retAddr 0, .retAddr 0, .retAddr 0, .retAddr 0, .retAddr 0, .retAddr 0, .retAddr 0] [] (S sl p I J) from rfl).trans ?_
  refine (r_iln (dk D275 0 rfl) rfl).trans ?_
  refine (r_ic (dk D275 1 rfl) ci0).trans ?_
  refine (r_ic (dk D275 2 rfl) ci1).trans ?_
  exact r_cs (dk D275 3 rfl) ow275 pn12_178 c12_178 mf181 (Nat.le_of_ble_eq_true rfl) rfl rfl (Nat.le_of_ble_eq_true rfl) (Nat.le_of_ble_eq_true rfl)
theorem E275_6 {d sl : Nat} {p : Nat → Nat} {I : Nat → Nat → Int32} {J : Nat → Nat → Int64} (l1 : Int32) (l2 : Int32) (s0 : Int32)  : ev (d + 1) 275 6 [.ref 46, .int l1, .int l2, .retAddr 0, .retAddr 0, .retAddr 0, .retAddr 0, .retAddr 0, .retAddr 0, .retAddr 0, .retAddr 0, .retAddr 0, .retAddr 0, .retAddr 0, .retAddr 0] [.int s0] (S sl p I J) = (if s0 = 0 then evK (d + 1) 275 14 [.ref 46, .int l1, .int l2, .retAddr 0, .retAddr 0, .retAddr 0, .retAddr 0, .retAddr 0, .retAddr 0, .retAddr 0, .retAddr 0, .retAddr 0, .retAddr 0, .retAddr 0, .retAddr 0] [] (den d 178 [.ref 46, .int 1] (S sl p I J)) else (if (I 46 2) = 0 then evK (d + 1) 275 27 [.ref 46, .int l1, .int l2, .retAddr 0, .retAddr 0, .retAddr 0, .retAddr 0, .retAddr 0, .retAddr 0, .retAddr 0, .retAddr 0, .retAddr 0, .retAddr 0, .retAddr 0, .retAddr 0] [] (den d 178 [.ref 46, .int 5] (S sl p I J)) else evK (d + 1) 275 32 [.ref 46, .int l1, .int l2, .retAddr 0, .retAddr 0, .retAddr 0, .retAddr 0, .retAddr 0, .retAddr 0, .retAddr 0, .retAddr 0, .retAddr 0, .retAddr 0, .retAddr 0, .retAddr 0] [] (den d 272 [.ref 46] (S sl p I J)))) := by
  refine (r_ne0 (dk D275 4 rfl) rfl).trans (ite2 ?_ ?_)
  · refine (r_aln (dk D275 5 rfl) rfl).trans ?_
    refine (r_ic (dk D275 6 rfl) ci1).trans ?_
    exact r_cv (dk D275 7 rfl) ow275 c12_183 mf178 (Nat.le_of_ble_eq_true rfl) rfl rfl (Nat.le_of_ble_eq_true rfl) (Nat.le_of_ble_eq_true rfl) ob_46
  · refine (r_aln (dk D275 9 rfl) rfl).trans ?_
    refine (r_getI (dk D275 10 rfl) ow275 q12_196 ob_46).trans ?_
    refine (r_ne0 (dk D275 11 rfl) rfl).trans (ite2 ?_ ?_)
    · refine (r_aln (dk D275 12 rfl) rfl).trans ?_
      refine (r_ic (dk D275 13 rfl) ci5).trans ?_
      exact r_cv (dk D275 14 rfl) ow275 c12_183 mf178 (Nat.le_of_ble_eq_true rfl) rfl rfl (Nat.le_of_ble_eq_true rfl) (Nat.le_of_ble_eq_true rfl) ob_46
    · refine (r_aln (dk D275 16 rfl) rfl).trans ?_
      exact r_cv (dk D275 17 rfl) ow275 c12_397 mf272 (Nat.le_of_ble_eq_true rfl) rfl rfl (Nat.le_of_ble_eq_true rfl) (Nat.le_of_ble_eq_true rfl) ob_46
theorem E275_14 {d sl : Nat} {p : Nat → Nat} {I : Nat → Nat → Int32} {J : Nat → Nat → Int64} (l1 : Int32) (l2 : Int32) (s0 : Int32)  : ev d 275 14 [.ref 46, .int l1, .int l2, .retAddr 0, .retAddr 0, .retAddr 0, .retAddr 0, .retAddr 0, .retAddr 0, .retAddr 0, .retAddr 0, .retAddr 0, .retAddr 0, .retAddr 0, .retAddr 0] [.int s0] (S sl p I J) = some (some (.int s0), (S sl p I J)) := by
  exact r_ret (dk D275 8 rfl) rt275
theorem E275_27 {d sl : Nat} {p : Nat → Nat} {I : Nat → Nat → Int32} {J : Nat → Nat → Int64} (l1 : Int32) (l2 : Int32) (s0 : Int32)  : ev d 275 27 [.ref 46, .int l1, .int l2, .retAddr 0, .retAddr 0, .retAddr 0, .retAddr 0, .retAddr 0, .retAddr 0, .retAddr 0, .retAddr 0, .retAddr 0, .retAddr 0, .retAddr 0, .retAddr 0] [.int s0] (S sl p I J) = some (some (.int s0), (S sl p I J)) := by
  exact r_ret (dk D275 15 rfl) rt275
theorem E275_32 {d sl : Nat} {p : Nat → Nat} {I : Nat → Nat → Int32} {J : Nat → Nat → Int64} (l1 : Int32) (l2 : Int32)  : ev (d + 1) 275 32 [.ref 46, .int l1, .int l2, .retAddr 0, .retAddr 0, .retAddr 0, .retAddr 0, .retAddr 0, .retAddr 0, .retAddr 0, .retAddr 0, .retAddr 0, .retAddr 0, .retAddr 0, .retAddr 0] [] (S sl p I J) = evK (d + 1) 275 38 [.ref 46, .int l1, .int l2, .retAddr 0, .retAddr 0, .retAddr 0, .retAddr 0, .retAddr 0, .retAddr 0, .retAddr 0, .retAddr 0, .retAddr 0, .retAddr 0, .retAddr 0, .retAddr 0] [] (den d 186 [.ref 46, .int 0, .int 0] (S sl p I J)) := by
  refine (r_aln (dk D275 18 rfl) rfl).trans ?_
  refine (r_ic (dk D275 19 rfl) ci0).trans ?_
  refine (r_ic (dk D275 20 rfl) ci0).trans ?_
  exact r_cv (dk D275 21 rfl) ow275 c12_207 mf186 (Nat.le_of_ble_eq_true rfl) rfl rfl (Nat.le_of_ble_eq_true rfl) (Nat.le_of_ble_eq_true rfl) ob_46
theorem E275_38 {d sl : Nat} {p : Nat → Nat} {I : Nat → Nat → Int32} {J : Nat → Nat → Int64} (l1 : Int32) (l2 : Int32)  : ev (d + 1) 275 38 [.ref 46, .int l1, .int l2, .retAddr 0, .retAddr 0, .retAddr 0, .retAddr 0, .retAddr 0, .retAddr 0, .retAddr 0, .retAddr 0, .retAddr 0, .retAddr 0, .retAddr 0, .retAddr 0] [] (S sl p I J) = evK (d + 1) 275 42 [.ref 46, .int l1, .int l2, .retAddr 0, .retAddr 0, .retAddr 0, .retAddr 0, .retAddr 0, .retAddr 0, .retAddr 0, .retAddr 0, .retAddr 0, .retAddr 0, .retAddr 0, .retAddr 0] [] (den d 274 [.ref 46] (S sl p I J)) := by
  refine (r_aln (dk D275 22 rfl) rfl).trans ?_
  exact r_cv (dk D275 23 rfl) ow275 c12_400 mf274 (Nat.le_of_ble_eq_true rfl) rfl rfl (Nat.le_of_ble_eq_true rfl) (Nat.le_of_ble_eq_true rfl) ob_46
theorem E275_42 {d sl : Nat} {p : Nat → Nat} {I : Nat → Nat → Int32} {J : Nat → Nat → Int64} (l1 : Int32) (l2 : Int32) (s0 : Int64)  : ev (d + 1) 275 42 [.ref 46, .int l1, .int l2, .retAddr 0, .retAddr 0, .retAddr 0, .retAddr 0, .retAddr 0, .retAddr 0, .retAddr 0, .retAddr 0, .retAddr 0, .retAddr 0, .retAddr 0, .retAddr 0] [.long s0] (S sl p I J) = evK (d + 1) 275 61 [.ref 46, .int l1, .int l2, .long s0, .retAddr 0, .retAddr 0, .retAddr 0, .retAddr 0, .retAddr 0, .retAddr 0, .retAddr 0, .retAddr 0, .retAddr 0, .retAddr 0, .retAddr 0] [] (den d 189 [.long (Int32.toInt64 (I 46 23)), .long (Int32.toInt64 (I 46 24)), .long (Int32.toInt64 (I 46 25))] (S sl p I J)) := by
  refine (r_lsn (L' := [.ref 46, .int l1, .int l2, .long s0, .retAddr 0, .retAddr 0, .retAddr 0, .retAddr 0, .retAddr 0, .retAddr 0, .retAddr 0, .retAddr 0, .retAddr 0, .retAddr 0, .retAddr 0]) (dk D275 24 rfl) (Nat.le_of_ble_eq_true rfl) rfl).trans ?_
  refine (r_aln (dk D275 25 rfl) rfl).trans ?_
  refine (r_getI (dk D275 26 rfl) ow275 q12_127 ob_46).trans ?_
  refine (r_i2l (dk D275 27 rfl)).trans ?_
  refine (r_aln (dk D275 28 rfl) rfl).trans ?_
  refine (r_getI (dk D275 29 rfl) ow275 q12_130 ob_46).trans ?_
  refine (r_i2l (dk D275 30 rfl)).trans ?_
  refine (r_aln (dk D275 31 rfl) rfl).trans ?_
  refine (r_getI (dk D275 32 rfl) ow275 q12_133 ob_46).trans ?_
  refine (r_i2l (dk D275 33 rfl)).trans ?_
  exact r_cs (dk D275 34 rfl) ow275 pn12_146 c12_146 mf189 (Nat.le_of_ble_eq_true rfl) rfl rfl (Nat.le_of_ble_eq_true rfl) (Nat.le_of_ble_eq_true rfl)
theorem E275_61 {d sl : Nat} {p : Nat → Nat} {I : Nat → Nat → Int32} {J : Nat → Nat → Int64} (l1 : Int32) (l2 : Int32) (l3 : Int64) (s0 : Int64)  : ev d 275 61 [.ref 46, .int l1, .int l2, .long l3, .retAddr 0, .retAddr 0, .retAddr 0, .retAddr 0, .retAddr 0, .retAddr 0, .retAddr 0, .retAddr 0, .retAddr 0, .retAddr 0, .retAddr 0] [.long s0] (S sl p I J) = ev d 275 72 [.ref 46, .int l1, .int l2, .long l3, .retAddr 0, .long s0, .retAddr 0, .int 0, .int 0, .int 1, .retAddr 0, .retAddr 0, .retAddr 0, .retAddr 0, .retAddr 0] [] (S sl p I J) := by
  refine (r_ls (L' := [.ref 46, .int l1, .int l2, .long l3, .retAddr 0, .long s0, .retAddr 0, .retAddr 0, .retAddr 0, .retAddr 0, .retAddr 0, .retAddr 0, .retAddr 0, .retAddr 0, .retAddr 0]) (dk D275 35 rfl) (Nat.le_of_ble_eq_true rfl) rfl).trans ?_
  refine (r_ic (dk D275 36 rfl) ci0).trans ?_
  refine (r_is (L' := [.ref 46, .int l1, .int l2, .long l3, .retAddr 0, .long s0, .retAddr 0, .int 0, .retAddr 0, .retAddr 0, .retAddr 0, .retAddr 0, .retAddr 0, .retAddr 0, .retAddr 0]) (dk D275 37 rfl) (Nat.le_of_ble_eq_true rfl) rfl).trans ?_
  refine (r_ic (dk D275 38 rfl) ci0).trans ?_
  refine (r_is (L' := [.ref 46, .int l1, .int l2, .long l3, .retAddr 0, .long s0, .retAddr 0, .int 0, .int 0, .retAddr 0, .retAddr 0, .retAddr 0, .retAddr 0, .retAddr 0, .retAddr 0]) (dk D275 39 rfl) (Nat.le_of_ble_eq_true rfl) rfl).trans ?_
  refine (r_ic (dk D275 40 rfl) ci1).trans ?_
  refine (r_is (L' := [.ref 46, .int l1, .int l2, .long l3, .retAddr 0, .long s0, .retAddr 0, .int 0, .int 0, .int 1, .retAddr 0, .retAddr 0, .retAddr 0, .retAddr 0, .retAddr 0]) (dk D275 41 rfl) (Nat.le_of_ble_eq_true rfl) rfl).trans ?_
  exact rfl
theorem E275_72 {d sl : Nat} {p : Nat → Nat} {I : Nat → Nat → Int32} {J : Nat → Nat → Int64} (l1 : Int32) (l2 : Int32) (l3 : Int64) (l5 : Int64) (l7 : Int32) (l8 : Int32) (l9 : Int32)  : ev (d + 1) 275 72 [.ref 46, .int l1, .int l2, .long l3, .retAddr 0, .long l5, .retAddr 0, .int l7, .int l8, .int l9, .retAddr 0, .retAddr 0, .retAddr 0, .retAddr 0, .retAddr 0] [] (S sl p I J) = (if l9 ≤ 90 then ev (d + 1) 275 82 [.ref 46, .int l1, .int l2, .long l3, .retAddr 0, .long l5, .retAddr 0, .int l7, .int l8, .int l9, .int 0, .retAddr 0, .retAddr 0, .retAddr 0, .retAddr 0] [] (S sl p I J) else (if l2 = 0 then evK (d + 1) 275 199 [.ref 46, .int l1, .int l2, .long l3, .retAddr 0, .long l5, .retAddr 0, .int l7, .int l8, .int l9, .retAddr 0, .retAddr 0, .retAddr 0, .retAddr 0, .retAddr 0] [.ref 46] (den d 185 [.int l8, .int l7] (S sl p I J)) else ev (d + 1) 275 204 [.ref 46, .int l1, .int l2, .long l3, .retAddr 0, .long l5, .retAddr 0, .int l7, .int l8, .int l9, .retAddr 0, .retAddr 0, .retAddr 0, .retAddr 0, .retAddr 0] [.int l7, .ref 46] (S sl p I J))) := by
  refine (r_il (dk D275 42 rfl) rfl).trans ?_
  refine (r_bp (dk D275 43 rfl) cb90).trans ?_
  refine (r_gt (dk D275 44 rfl) rfl).trans (ite2 ?_ ?_)
  · refine (r_ic (dk D275 45 rfl) ci0).trans ?_
    refine (r_is (L' := [.ref 46, .int l1, .int l2, .long l3, .retAddr 0, .long l5, .retAddr 0, .int l7, .int l8, .int l9, .int 0, .retAddr 0, .retAddr 0, .retAddr 0, .retAddr 0]) (dk D275 46 rfl) (Nat.le_of_ble_eq_true rfl) rfl).trans ?_
    exact rfl
  · refine (r_aln (dk D275 100 rfl) rfl).trans ?_
    refine (r_iln (dk D275 101 rfl) rfl).trans ?_
    refine (r_ne0 (dk D275 102 rfl) rfl).trans (ite2 ?_ ?_)
    · refine (r_il (dk D275 103 rfl) rfl).trans ?_
      refine (r_il (dk D275 104 rfl) rfl).trans ?_
      exact r_cs (dk D275 105 rfl) ow275 pn12_120 c12_120 mf185 (Nat.le_of_ble_eq_true rfl) rfl rfl (Nat.le_of_ble_eq_true rfl) (Nat.le_of_ble_eq_true rfl)
    · refine (r_il (dk D275 107 rfl) rfl).trans ?_
      exact rfl
theorem E275_82 {d sl : Nat} {p : Nat → Nat} {I : Nat → Nat → Int32} {J : Nat → Nat → Int64} (l1 : Int32) (l2 : Int32) (l3 : Int64) (l5 : Int64) (l7 : Int32) (l8 : Int32) (l9 : Int32) (l10 : Int32)  : ev (d + 1) 275 82 [.ref 46, .int l1, .int l2, .long l3, .retAddr 0, .long l5, .retAddr 0, .int l7, .int l8, .int l9, .int l10, .retAddr 0, .retAddr 0, .retAddr 0, .retAddr 0] [] (S sl p I J) = (if l10 < 360 then evK (d + 1) 275 98 [.ref 46, .int l1, .int l2, .long l3, .retAddr 0, .long l5, .retAddr 0, .int l7, .int l8, .int l9, .int l10, .retAddr 0, .retAddr 0, .retAddr 0, .retAddr 0] [] (den d 186 [.ref 46, .int l10, .int l9] (S sl p I J)) else ev (d + 1) 275 72 [.ref 46, .int l1, .int l2, .long l3, .retAddr 0, .long l5, .retAddr 0, .int l7, .int l8, .int (l9 + 1), .retAddr 0, .retAddr 0, .retAddr 0, .retAddr 0, .retAddr 0] [] (S sl p I J)) := by
  refine (r_il (dk D275 47 rfl) rfl).trans ?_
  refine (r_sp (dk D275 48 rfl) cs360).trans ?_
  refine (r_ge (dk D275 49 rfl) rfl).trans (ite2 ?_ ?_)
  · refine (r_aln (dk D275 50 rfl) rfl).trans ?_
    refine (r_il (dk D275 51 rfl) rfl).trans ?_
    refine (r_il (dk D275 52 rfl) rfl).trans ?_
    exact r_cv (dk D275 53 rfl) ow275 c12_207 mf186 (Nat.le_of_ble_eq_true rfl) rfl rfl (Nat.le_of_ble_eq_true rfl) (Nat.le_of_ble_eq_true rfl) ob_46
  · refine (r_inc (L' := [.ref 46, .int l1, .int l2, .long l3, .retAddr 0, .long l5, .retAddr 0, .int l7, .int l8, .int (l9 + 1), .int l10, .retAddr 0, .retAddr 0, .retAddr 0, .retAddr 0]) (dk D275 98 rfl) rfl rfl ci1 (Nat.le_of_ble_eq_true rfl) rfl).trans ?_
    refine (r_goto (L' := [.ref 46, .int l1, .int l2, .long l3, .retAddr 0, .long l5, .retAddr 0, .int l7, .int l8, .int (l9 + 1), .retAddr 0, .retAddr 0, .retAddr 0, .retAddr 0, .retAddr 0]) (dk D275 99 rfl) rfl nd275_72 rfl).trans ?_
    exact rfl
theorem E275_98 {d sl : Nat} {p : Nat → Nat} {I : Nat → Nat → Int32} {J : Nat → Nat → Int64} (l1 : Int32) (l2 : Int32) (l3 : Int64) (l5 : Int64) (l7 : Int32) (l8 : Int32) (l9 : Int32) (l10 : Int32)  : ev (d + 1) 275 98 [.ref 46, .int l1, .int l2, .long l3, .retAddr 0, .long l5, .retAddr 0, .int l7, .int l8, .int l9, .int l10, .retAddr 0, .retAddr 0, .retAddr 0, .retAddr 0] [] (S sl p I J) = evK (d + 1) 275 102 [.ref 46, .int l1, .int l2, .long l3, .retAddr 0, .long l5, .retAddr 0, .int l7, .int l8, .int l9, .int l10, .retAddr 0, .retAddr 0, .retAddr 0, .retAddr 0] [] (den d 274 [.ref 46] (S sl p I J)) := by
  refine (r_aln (dk D275 54 rfl) rfl).trans ?_
  exact r_cv (dk D275 55 rfl) ow275 c12_400 mf274 (Nat.le_of_ble_eq_true rfl) rfl rfl (Nat.le_of_ble_eq_true rfl) (Nat.le_of_ble_eq_true rfl) ob_46
theorem E275_102 {d sl : Nat} {p : Nat → Nat} {I : Nat → Nat → Int32} {J : Nat → Nat → Int64} (l1 : Int32) (l2 : Int32) (l3 : Int64) (l5 : Int64) (l7 : Int32) (l8 : Int32) (l9 : Int32) (l10 : Int32) (s0 : Int64)  : ev (d + 1) 275 102 [.ref 46, .int l1, .int l2, .long l3, .retAddr 0, .long l5, .retAddr 0, .int l7, .int l8, .int l9, .int l10, .retAddr 0, .retAddr 0, .retAddr 0, .retAddr 0] [.long s0] (S sl p I J) = evK (d + 1) 275 122 [.ref 46, .int l1, .int l2, .long l3, .retAddr 0, .long l5, .retAddr 0, .int l7, .int l8, .int l9, .int l10, .long s0, .retAddr 0, .retAddr 0, .retAddr 0] [] (den d 189 [.long (Int32.toInt64 (I 46 23)), .long (Int32.toInt64 (I 46 24)), .long (Int32.toInt64 (I 46 25))] (S sl p I J)) := by
  refine (r_ls (L' := [.ref 46, .int l1, .int l2, .long l3, .retAddr 0, .long l5, .retAddr 0, .int l7, .int l8, .int l9, .int l10, .long s0, .retAddr 0, .retAddr 0, .retAddr 0]) (dk D275 56 rfl) (Nat.le_of_ble_eq_true rfl) rfl).trans ?_
  refine (r_aln (dk D275 57 rfl) rfl).trans ?_
  refine (r_getI (dk D275 58 rfl) ow275 q12_127 ob_46).trans ?_
  refine (r_i2l (dk D275 59 rfl)).trans ?_
  refine (r_aln (dk D275 60 rfl) rfl).trans ?_
  refine (r_getI (dk D275 61 rfl) ow275 q12_130 ob_46).trans ?_
  refine (r_i2l (dk D275 62 rfl)).trans ?_
  refine (r_aln (dk D275 63 rfl) rfl).trans ?_
  refine (r_getI (dk D275 64 rfl) ow275 q12_133 ob_46).trans ?_
  refine (r_i2l (dk D275 65 rfl)).trans ?_
  exact r_cs (dk D275 66 rfl) ow275 pn12_146 c12_146 mf189 (Nat.le_of_ble_eq_true rfl) rfl rfl (Nat.le_of_ble_eq_true rfl) (Nat.le_of_ble_eq_true rfl)
theorem E275_122 {d sl : Nat} {p : Nat → Nat} {I : Nat → Nat → Int32} {J : Nat → Nat → Int64} (l1 : Int32) (l2 : Int32) (l3 : Int64) (l5 : Int64) (l7 : Int32) (l8 : Int32) (l9 : Int32) (l10 : Int32) (l11 : Int64) (s0 : Int64)  : ev d 275 122 [.ref 46, .int l1, .int l2, .long l3, .retAddr 0, .long l5, .retAddr 0, .int l7, .int l8, .int l9, .int l10, .long l11, .retAddr 0, .retAddr 0, .retAddr 0] [.long s0] (S sl p I J) = (if l1 = 0 then (if (l11 * l5) < (l3 * s0) then ev d 275 82 [.ref 46, .int l1, .int l2, .long l11, .retAddr 0, .long s0, .retAddr 0, .int l9, .int l10, .int l9, .int (l10 + 1), .retAddr 0, .retAddr 0, .retAddr 0, .retAddr 0] [] (S sl p I J) else ev d 275 82 [.ref 46, .int l1, .int l2, .long l3, .retAddr 0, .long l5, .retAddr 0, .int l7, .int l8, .int l9, .int (l10 + 1), .retAddr 0, .retAddr 0, .retAddr 0, .retAddr 0] [] (S sl p I J)) else (if (l11 * l5) ≤ (l3 * s0) then ev d 275 82 [.ref 46, .int l1, .int l2, .long l3, .retAddr 0, .long l5, .retAddr 0, .int l7, .int l8, .int l9, .int (l10 + 1), .retAddr 0, .retAddr 0, .retAddr 0, .retAddr 0] [] (S sl p I J) else ev d 275 82 [.ref 46, .int l1, .int l2, .long l11, .retAddr 0, .long s0, .retAddr 0, .int l9, .int l10, .int l9, .int (l10 + 1), .retAddr 0, .retAddr 0, .retAddr 0, .retAddr 0] [] (S sl p I J))) := by
  refine (r_ls (L' := [.ref 46, .int l1, .int l2, .long l3, .retAddr 0, .long l5, .retAddr 0, .int l7, .int l8, .int l9, .int l10, .long l11, .retAddr 0, .long s0, .retAddr 0]) (dk D275 67 rfl) (Nat.le_of_ble_eq_true rfl) rfl).trans ?_
  refine (r_iln (dk D275 68 rfl) rfl).trans ?_
  refine (r_eq0 (dk D275 69 rfl) rfl).trans (ite2 ?_ ?_)
  · refine (r_ll (dk D275 79 rfl) rfl).trans ?_
    refine (r_ll (dk D275 80 rfl) rfl).trans ?_
    refine (r_lmul (dk D275 81 rfl)).trans ?_
    refine (r_lln (dk D275 82 rfl) rfl).trans ?_
    refine (r_ll (dk D275 83 rfl) rfl).trans ?_
    refine (r_lmul (dk D275 84 rfl)).trans ?_
    refine (r_jlt (dk D275 85 rfl) (dk D275 86 rfl) rfl).trans (ite2 ?_ ?_)
    · refine (r_ll (dk D275 88 rfl) rfl).trans ?_
      refine (r_lsn (L' := [.ref 46, .int l1, .int l2, .long l11, .retAddr 0, .long l5, .retAddr 0, .int l7, .int l8, .int l9, .int l10, .long l11, .retAddr 0, .long s0, .retAddr 0]) (dk D275 89 rfl) (Nat.le_of_ble_eq_true rfl) rfl).trans ?_
      refine (r_ll (dk D275 90 rfl) rfl).trans ?_
      refine (r_ls (L' := [.ref 46, .int l1, .int l2, .long l11, .retAddr 0, .long s0, .retAddr 0, .int l7, .int l8, .int l9, .int l10, .long l11, .retAddr 0, .long s0, .retAddr 0]) (dk D275 91 rfl) (Nat.le_of_ble_eq_true rfl) rfl).trans ?_
      refine (r_il (dk D275 92 rfl) rfl).trans ?_
      refine (r_is (L' := [.ref 46, .int l1, .int l2, .long l11, .retAddr 0, .long s0, .retAddr 0, .int l9, .int l8, .int l9, .int l10, .long l11, .retAddr 0, .long s0, .retAddr 0]) (dk D275 93 rfl) (Nat.le_of_ble_eq_true rfl) rfl).trans ?_
      refine (r_il (dk D275 94 rfl) rfl).trans ?_
      refine (r_is (L' := [.ref 46, .int l1, .int l2, .long l11, .retAddr 0, .long s0, .retAddr 0, .int l9, .int l10, .int l9, .int l10, .long l11, .retAddr 0, .long s0, .retAddr 0]) (dk D275 95 rfl) (Nat.le_of_ble_eq_true rfl) rfl).trans ?_
      refine (r_inc (L' := [.ref 46, .int l1, .int l2, .long l11, .retAddr 0, .long s0, .retAddr 0, .int l9, .int l10, .int l9, .int (l10 + 1), .long l11, .retAddr 0, .long s0, .retAddr 0]) (dk D275 96 rfl) rfl rfl ci1 (Nat.le_of_ble_eq_true rfl) rfl).trans ?_
      refine (r_goto (L' := [.ref 46, .int l1, .int l2, .long l11, .retAddr 0, .long s0, .retAddr 0, .int l9, .int l10, .int l9, .int (l10 + 1), .retAddr 0, .retAddr 0, .retAddr 0, .retAddr 0]) (dk D275 97 rfl) rfl nd275_82 rfl).trans ?_
      exact rfl
    · refine (r_goto (L' := [.ref 46, .int l1, .int l2, .long l3, .retAddr 0, .long l5, .retAddr 0, .int l7, .int l8, .int l9, .int l10, .long l11, .retAddr 0, .long s0, .retAddr 0]) (dk D275 87 rfl) rfl nd275_175 rfl).trans ?_
      refine (r_inc (L' := [.ref 46, .int l1, .int l2, .long l3, .retAddr 0, .long l5, .retAddr 0, .int l7, .int l8, .int l9, .int (l10 + 1), .long l11, .retAddr 0, .long s0, .retAddr 0]) (dk D275 96 rfl) rfl rfl ci1 (Nat.le_of_ble_eq_true rfl) rfl).trans ?_
      refine (r_goto (L' := [.ref 46, .int l1, .int l2, .long l3, .retAddr 0, .long l5, .retAddr 0, .int l7, .int l8, .int l9, .int (l10 + 1), .retAddr 0, .retAddr 0, .retAddr 0, .retAddr 0]) (dk D275 97 rfl) rfl nd275_82 rfl).trans ?_
      exact rfl
  · refine (r_ll (dk D275 70 rfl) rfl).trans ?_
    refine (r_ll (dk D275 71 rfl) rfl).trans ?_
    refine (r_lmul (dk D275 72 rfl)).trans ?_
    refine (r_lln (dk D275 73 rfl) rfl).trans ?_
    refine (r_ll (dk D275 74 rfl) rfl).trans ?_
    refine (r_lmul (dk D275 75 rfl)).trans ?_
    refine (r_jgt (dk D275 76 rfl) (dk D275 77 rfl) rfl).trans (ite2 ?_ ?_)
    · refine (r_goto (L' := [.ref 46, .int l1, .int l2, .long l3, .retAddr 0, .long l5, .retAddr 0, .int l7, .int l8, .int l9, .int l10, .long l11, .retAddr 0, .long s0, .retAddr 0]) (dk D275 78 rfl) rfl nd275_175 rfl).trans ?_
      refine (r_inc (L' := [.ref 46, .int l1, .int l2, .long l3, .retAddr 0, .long l5, .retAddr 0, .int l7, .int l8, .int l9, .int (l10 + 1), .long l11, .retAddr 0, .long s0, .retAddr 0]) (dk D275 96 rfl) rfl rfl ci1 (Nat.le_of_ble_eq_true rfl) rfl).trans ?_
      refine (r_goto (L' := [.ref 46, .int l1, .int l2, .long l3, .retAddr 0, .long l5, .retAddr 0, .int l7, .int l8, .int l9, .int (l10 + 1), .retAddr 0, .retAddr 0, .retAddr 0, .retAddr 0]) (dk D275 97 rfl) rfl nd275_82 rfl).trans ?_
      exact rfl
    · refine (r_ll (dk D275 88 rfl) rfl).trans ?_
      refine (r_lsn (L' := [.ref 46, .int l1, .int l2, .long l11, .retAddr 0, .long l5, .retAddr 0, .int l7, .int l8, .int l9, .int l10, .long l11, .retAddr 0, .long s0, .retAddr 0]) (dk D275 89 rfl) (Nat.le_of_ble_eq_true rfl) rfl).trans ?_
      refine (r_ll (dk D275 90 rfl) rfl).trans ?_
      refine (r_ls (L' := [.ref 46, .int l1, .int l2, .long l11, .retAddr 0, .long s0, .retAddr 0, .int l7, .int l8, .int l9, .int l10, .long l11, .retAddr 0, .long s0, .retAddr 0]) (dk D275 91 rfl) (Nat.le_of_ble_eq_true rfl) rfl).trans ?_
      refine (r_il (dk D275 92 rfl) rfl).trans ?_
      refine (r_is (L' := [.ref 46, .int l1, .int l2, .long l11, .retAddr 0, .long s0, .retAddr 0, .int l9, .int l8, .int l9, .int l10, .long l11, .retAddr 0, .long s0, .retAddr 0]) (dk D275 93 rfl) (Nat.le_of_ble_eq_true rfl) rfl).trans ?_
      refine (r_il (dk D275 94 rfl) rfl).trans ?_
      refine (r_is (L' := [.ref 46, .int l1, .int l2, .long l11, .retAddr 0, .long s0, .retAddr 0, .int l9, .int l10, .int l9, .int l10, .long l11, .retAddr 0, .long s0, .retAddr 0]) (dk D275 95 rfl) (Nat.le_of_ble_eq_true rfl) rfl).trans ?_
      refine (r_inc (L' := [.ref 46, .int l1, .int l2, .long l11, .retAddr 0, .long s0, .retAddr 0, .int l9, .int l10, .int l9, .int (l10 + 1), .long l11, .retAddr 0, .long s0, .retAddr 0]) (dk D275 96 rfl) rfl rfl ci1 (Nat.le_of_ble_eq_true rfl) rfl).trans ?_
      refine (r_goto (L' := [.ref 46, .int l1, .int l2, .long l11, .retAddr 0, .long s0, .retAddr 0, .int l9, .int l10, .int l9, .int (l10 + 1), .retAddr 0, .retAddr 0, .retAddr 0, .retAddr 0]) (dk D275 97 rfl) rfl nd275_82 rfl).trans ?_
      exact rfl
theorem E275_199 {d sl : Nat} {p : Nat → Nat} {I : Nat → Nat → Int32} {J : Nat → Nat → Int64} (l1 : Int32) (l2 : Int32) (l3 : Int64) (l5 : Int64) (l7 : Int32) (l8 : Int32) (l9 : Int32) (s0 : Int32)  : ev d 275 199 [.ref 46, .int l1, .int l2, .long l3, .retAddr 0, .long l5, .retAddr 0, .int l7, .int l8, .int l9, .retAddr 0, .retAddr 0, .retAddr 0, .retAddr 0, .retAddr 0] [.int s0, .ref 46] (S sl p I J) = ev d 275 204 [.ref 46, .int l1, .int l2, .long l3, .retAddr 0, .long l5, .retAddr 0, .int l7, .int l8, .int l9, .retAddr 0, .retAddr 0, .retAddr 0, .retAddr 0, .retAddr 0] [.int s0, .ref 46] (S sl p I J) := by
  refine (r_goto (L' := [.ref 46, .int l1, .int l2, .long l3, .retAddr 0, .long l5, .retAddr 0, .int l7, .int l8, .int l9, .retAddr 0, .retAddr 0, .retAddr 0, .retAddr 0, .retAddr 0]) (dk D275 106 rfl) rfl nd275_204 rfl).trans ?_
  exact rfl
theorem E275_204 {d sl : Nat} {p : Nat → Nat} {I : Nat → Nat → Int32} {J : Nat → Nat → Int64} (l1 : Int32) (l2 : Int32) (l3 : Int64) (l5 : Int64) (l7 : Int32) (l8 : Int32) (l9 : Int32) (s0 : Int32)  : ev (d + 1) 275 204 [.ref 46, .int l1, .int l2, .long l3, .retAddr 0, .long l5, .retAddr 0, .int l7, .int l8, .int l9, .retAddr 0, .retAddr 0, .retAddr 0, .retAddr 0, .retAddr 0] [.int s0, .ref 46] (S sl p I J) = evK (d + 1) 275 207 [.ref 46, .int l1, .int l2, .long l3, .retAddr 0, .long l5, .retAddr 0, .int l7, .int l8, .int l9, .retAddr 0, .retAddr 0, .retAddr 0, .retAddr 0, .retAddr 0] [] (den d 179 [.ref 46, .int s0] (S sl p I J)) := by
  exact r_cv (dk D275 108 rfl) ow275 c12_193 mf179 (Nat.le_of_ble_eq_true rfl) rfl rfl (Nat.le_of_ble_eq_true rfl) (Nat.le_of_ble_eq_true rfl) ob_46
theorem E275_207 {d sl : Nat} {p : Nat → Nat} {I : Nat → Nat → Int32} {J : Nat → Nat → Int64} (l1 : Int32) (l2 : Int32) (l3 : Int64) (l5 : Int64) (l7 : Int32) (l8 : Int32) (l9 : Int32) (s0 : Int32)  : ev d 275 207 [.ref 46, .int l1, .int l2, .long l3, .retAddr 0, .long l5, .retAddr 0, .int l7, .int l8, .int l9, .retAddr 0, .retAddr 0, .retAddr 0, .retAddr 0, .retAddr 0] [.int s0] (S sl p I J) = some (some (.int s0), (S sl p I J)) := by
  exact r_ret (dk D275 109 rfl) rt275
set_option maxRecDepth 20000 in
theorem D276 : dOK 276 [(0, .iload_n 1, 1), (1, .iconst 0, 1), (2, .iconst 2, 1), (3, .invokestatic 178, 3), (6, .ifCond .ne 9, 3), (9, .aload_n 0, 1), (10, .iconst 1, 1), (11, .invokevirtual 183, 3), (14, .ireturn, 1), (15, .aload_n 0, 1), (16, .getfield 196, 3), (19, .ifCond .ne 9, 3), (22, .aload_n 0, 1), (23, .iconst 5, 1), (24, .invokevirtual 183, 3), (27, .ireturn, 1), (28, .ldc2_w 405, 3), (31, .lstore_n 2, 1), (32, .iconst 0, 1), (33, .istore 4, 2), (35, .iconst 0, 1), (36, .istore 5, 2), (38, .iconst 0, 1), (39, .istore 6, 2), (41, .iload 6, 2), (43, .bipush 90, 2), (45, .if_icmp .gt 103, 3), (48, .iconst 0, 1), (49, .istore 7, 2), (51, .iload 7, 2), (53, .sipush 360, 3), (56, .if_icmp .ge 86, 3), (59, .aload_n 0, 1), (60, .iload 7, 2), (62, .iload 6, 2), (64, .invokevirtual 189, 3), (67, .lconst 0, 1), (68, .lstore 8, 2), (70, .iconst 0, 1), (71, .istore 10, 2), (73, .iload 10, 2), (75, .aload_n 0, 1), (76, .getfield 196, 3), (79, .if_icmp .ge 36, 3), (82, .lload 8, 2), (84, .aload_n 0, 1), (85, .iload 10, 2), (87, .aload_n 0, 1), (88, .getfield 127, 3), (91, .i2l, 1), (92, .aload_n 0, 1), (93, .getfield 130, 3), (96, .i2l, 1), (97, .aload_n 0, 1), (98, .getfield 133, 3), (101, .i2l, 1), (102, .invokevirtual 174, 3), (105, .i2l, 1), (106, .ladd, 1), (107, .lstore 8, 2), (109, .iinc 10 1, 3), (112, .goto (-39), 3), (115, .lload 8, 2), (117, .lload_n 2, 1), (118, .lcmp, 1), (119, .ifCond .lt 6, 3), (122, .goto 14, 3), (125, .lload 8, 2), (127, .lstore_n 2, 1), (128, .iload 7, 2), (130, .istore 4, 2), (132, .iload 6, 2), (134, .istore 5, 2), (136, .iinc 7 10, 3), (139, .goto (-88), 3), (142, .iinc 6 10, 3), (145, .goto (-104), 3), (148, .aload_n 0, 1), (149, .iload_n 1, 1), (150, .ifCond .ne 8, 3), (153, .iload 4, 2), (155, .goto 15, 3), (158, .iload_n 1, 1), (159, .iconst 1, 1), (160, .if_icmp .ne 8, 3), (163, .iload 5, 2), (165, .goto 5, 3), (168, .lload_n 2, 1), (169, .l2i, 1), (170, .invokevirtual 193, 3), (173, .ireturn, 1)] = true := by decide +kernel
theorem E276_0 {d sl : Nat} {p : Nat → Nat} {I : Nat → Nat → Int32} {J : Nat → Nat → Int64} (a1 : Int32)  : den (d + 1) 276 [.ref 46, .int a1] (S sl p I J) = evK (d + 1) 276 6 [.ref 46, .int a1, .retAddr 0, .retAddr 0, .retAddr 0, .retAddr 0, .retAddr 0, .retAddr 0, .retAddr 0, .retAddr 0, .retAddr 0] [] (den d 181 [.int a1, .int 0, .int 2] (S sl p I J)) := by
  refine (show den (d + 1) 276 [.ref 46, .int a1] (S sl p I J) = ev (d + 1) 276 0 [.ref 46, .int a1, .retAddr 0, .retAddr 0, .retAddr 0, .retAddr 0, .retAddr 0, .retAddr 0, .retAddr 0, .retAddr 0, .retAddr 0] [] (S sl p I J) from rfl).trans ?_
  refine (r_iln (dk D276 0 rfl) rfl).trans ?_
  refine (r_ic (dk D276 1 rfl) ci0).trans ?_
  refine (r_ic (dk D276 2 rfl) ci2).trans ?_
  exact r_cs (dk D276 3 rfl) ow276 pn12_178 c12_178 mf181 (Nat.le_of_ble_eq_true rfl) rfl rfl (Nat.le_of_ble_eq_true rfl) (Nat.le_of_ble_eq_true rfl)
theorem E276_6 {d sl : Nat} {p : Nat → Nat} {I : Nat → Nat → Int32} {J : Nat → Nat → Int64} (l1 : Int32) (s0 : Int32)  : ev (d + 1) 276 6 [.ref 46, .int l1, .retAddr 0, .retAddr 0, .retAddr 0, .retAddr 0, .retAddr 0, .retAddr 0, .retAddr 0, .retAddr 0, .retAddr 0] [.int s0] (S sl p I J) = (if s0 = 0 then evK (d + 1) 276 14 [.ref 46, .int l1, .retAddr 0, .retAddr 0, .retAddr 0, .retAddr 0, .retAddr 0, .retAddr 0, .retAddr 0, .retAddr 0, .retAddr 0] [] (den d 178 [.ref 46, .int 1] (S sl p I J)) else (if (I 46 2) = 0 then evK (d + 1) 276 27 [.ref 46, .int l1, .retAddr 0, .retAddr 0, .retAddr 0, .retAddr 0, .retAddr 0, .retAddr 0, .retAddr 0, .retAddr 0, .retAddr 0] [] (den d 178 [.ref 46, .int 5] (S sl p I J)) else ev (d + 1) 276 41 [.ref 46, .int l1, .long 9223372036854775807, .retAddr 0, .int 0, .int 0, .int 0, .retAddr 0, .retAddr 0, .retAddr 0, .retAddr 0] [] (S sl p I J))) := by
  refine (r_ne0 (dk D276 4 rfl) rfl).trans (ite2 ?_ ?_)
  · refine (r_aln (dk D276 5 rfl) rfl).trans ?_
    refine (r_ic (dk D276 6 rfl) ci1).trans ?_
    exact r_cv (dk D276 7 rfl) ow276 c12_183 mf178 (Nat.le_of_ble_eq_true rfl) rfl rfl (Nat.le_of_ble_eq_true rfl) (Nat.le_of_ble_eq_true rfl) ob_46
  · refine (r_aln (dk D276 9 rfl) rfl).trans ?_
    refine (r_getI (dk D276 10 rfl) ow276 q12_196 ob_46).trans ?_
    refine (r_ne0 (dk D276 11 rfl) rfl).trans (ite2 ?_ ?_)
    · refine (r_aln (dk D276 12 rfl) rfl).trans ?_
      refine (r_ic (dk D276 13 rfl) ci5).trans ?_
      exact r_cv (dk D276 14 rfl) ow276 c12_183 mf178 (Nat.le_of_ble_eq_true rfl) rfl rfl (Nat.le_of_ble_eq_true rfl) (Nat.le_of_ble_eq_true rfl) ob_46
    · refine (r_ld2 (dk D276 16 rfl) ow276 kk12_405).trans ?_
      refine (r_lsn (L' := [.ref 46, .int l1, .long 9223372036854775807, .retAddr 0, .retAddr 0, .retAddr 0, .retAddr 0, .retAddr 0, .retAddr 0, .retAddr 0, .retAddr 0]) (dk D276 17 rfl) (Nat.le_of_ble_eq_true rfl) rfl).trans ?_
      refine (r_ic (dk D276 18 rfl) ci0).trans ?_
      refine (r_is (L' := [.ref 46, .int l1, .long 9223372036854775807, .retAddr 0, .int 0, .retAddr 0, .retAddr 0, .retAddr 0, .retAddr 0, .retAddr 0, .retAddr 0]) (dk D276 19 rfl) (Nat.le_of_ble_eq_true rfl) rfl).trans ?_
      refine (r_ic (dk D276 20 rfl) ci0).trans ?_
      refine (r_is (L' := [.ref 46, .int l1, .long 9223372036854775807, .retAddr 0, .int 0, .int 0, .retAddr 0, .retAddr 0, .retAddr 0, .retAddr 0, .retAddr 0]) (dk D276 21 rfl) (Nat.le_of_ble_eq_true rfl) rfl).trans ?_
      refine (r_ic (dk D276 22 rfl) ci0).trans ?_
      refine (r_is (L' := [.ref 46, .int l1, .long 9223372036854775807, .retAddr 0, .int 0, .int 0, .int 0, .retAddr 0, .retAddr 0, .retAddr 0, .retAddr 0]) (dk D276 23 rfl) (Nat.le_of_ble_eq_true rfl) rfl).trans ?_
      exact rfl
theorem E276_14 {d sl : Nat} {p : Nat → Nat} {I : Nat → Nat → Int32} {J : Nat → Nat → Int64} (l1 : Int32) (s0 : Int32)  : ev d 276 14 [.ref 46, .int l1, .retAddr 0, .retAddr 0, .retAddr 0, .retAddr 0, .retAddr 0, .retAddr 0, .retAddr 0, .retAddr 0, .retAddr 0] [.int s0] (S sl p I J) = some (some (.int s0), (S sl p I J)) := by
  exact r_ret (dk D276 8 rfl) rt276
theorem E276_27 {d sl : Nat} {p : Nat → Nat} {I : Nat → Nat → Int32} {J : Nat → Nat → Int64} (l1 : Int32) (s0 : Int32)  : ev d 276 27 [.ref 46, .int l1, .retAddr 0, .retAddr 0, .retAddr 0, .retAddr 0, .retAddr 0, .retAddr 0, .retAddr 0, .retAddr 0, .retAddr 0] [.int s0] (S sl p I J) = some (some (.int s0), (S sl p I J)) := by
  exact r_ret (dk D276 15 rfl) rt276
theorem E276_41 {d sl : Nat} {p : Nat → Nat} {I : Nat → Nat → Int32} {J : Nat → Nat → Int64} (l1 : Int32) (l2 : Int64) (l4 : Int32) (l5 : Int32) (l6 : Int32)  : ev d 276 41 [.ref 46, .int l1, .long l2, .retAddr 0, .int l4, .int l5, .int l6, .retAddr 0, .retAddr 0, .retAddr 0, .retAddr 0] [] (S sl p I J) = (if l6 ≤ 90 then ev d 276 51 [.ref 46, .int l1, .long l2, .retAddr 0, .int l4, .int l5, .int l6, .int 0, .retAddr 0, .retAddr 0, .retAddr 0] [] (S sl p I J) else (if l1 = 0 then ev d 276 170 [.ref 46, .int l1, .long l2, .retAddr 0, .int l4, .int l5, .int l6, .retAddr 0, .retAddr 0, .retAddr 0, .retAddr 0] [.int l4, .ref 46] (S sl p I J) else (if l1 = 1 then ev d 276 170 [.ref 46, .int l1, .long l2, .retAddr 0, .int l4, .int l5, .int l6, .retAddr 0, .retAddr 0, .retAddr 0, .retAddr 0] [.int l5, .ref 46] (S sl p I J) else ev d 276 170 [.ref 46, .int l1, .long l2, .retAddr 0, .int l4, .int l5, .int l6, .retAddr 0, .retAddr 0, .retAddr 0, .retAddr 0] [.int (Int64.toInt32 l2), .ref 46] (S sl p I J)))) := by
  refine (r_il (dk D276 24 rfl) rfl).trans ?_
  refine (r_bp (dk D276 25 rfl) cb90).trans ?_
  refine (r_gt (dk D276 26 rfl) rfl).trans (ite2 ?_ ?_)
  · refine (r_ic (dk D276 27 rfl) ci0).trans ?_
    refine (r_is (L' := [.ref 46, .int l1, .long l2, .retAddr 0, .int l4, .int l5, .int l6, .int 0, .retAddr 0, .retAddr 0, .retAddr 0]) (dk D276 28 rfl) (Nat.le_of_ble_eq_true rfl) rfl).trans ?_
    exact rfl
  · refine (r_aln (dk D276 77 rfl) rfl).trans ?_
    refine (r_iln (dk D276 78 rfl) rfl).trans ?_
    refine (r_ne0 (dk D276 79 rfl) rfl).trans (ite2 ?_ ?_)
    · refine (r_il (dk D276 80 rfl) rfl).trans ?_
      refine (r_goto (L' := [.ref 46, .int l1, .long l2, .retAddr 0, .int l4, .int l5, .int l6, .retAddr 0, .retAddr 0, .retAddr 0, .retAddr 0]) (dk D276 81 rfl) rfl nd276_170 rfl).trans ?_
      exact rfl
    · refine (r_iln (dk D276 82 rfl) rfl).trans ?_
      refine (r_ic (dk D276 83 rfl) ci1).trans ?_
      refine (r_ne (dk D276 84 rfl) rfl).trans (ite2 ?_ ?_)
      · refine (r_il (dk D276 85 rfl) rfl).trans ?_
        refine (r_goto (L' := [.ref 46, .int l1, .long l2, .retAddr 0, .int l4, .int l5, .int l6, .retAddr 0, .retAddr 0, .retAddr 0, .retAddr 0]) (dk D276 86 rfl) rfl nd276_170 rfl).trans ?_
        exact rfl
      · refine (r_lln (dk D276 87 rfl) rfl).trans ?_
        refine (r_l2i (dk D276 88 rfl)).trans ?_
        exact rfl
theorem E276_51 {d sl : Nat} {p : Nat → Nat} {I : Nat → Nat → Int32} {J : Nat → Nat → Int64} (l1 : Int32) (l2 : Int64) (l4 : Int32) (l5 : Int32) (l6 : Int32) (l7 : Int32)  : ev (d + 1) 276 51 [.ref 46, .int l1, .long l2, .retAddr 0, .int l4, .int l5, .int l6, .int l7, .retAddr 0, .retAddr 0, .retAddr 0] [] (S sl p I J) = (if l7 < 360 then evK (d + 1) 276 67 [.ref 46, .int l1, .long l2, .retAddr 0, .int l4, .int l5, .int l6, .int l7, .retAddr 0, .retAddr 0, .retAddr 0] [] (den d 187 [.ref 46, .int l7, .int l6] (S sl p I J)) else ev (d + 1) 276 41 [.ref 46, .int l1, .long l2, .retAddr 0, .int l4, .int l5, .int (l6 + 10), .retAddr 0, .retAddr 0, .retAddr 0, .retAddr 0] [] (S sl p I J)) := by
  refine (r_il (dk D276 29 rfl) rfl).trans ?_
  refine (r_sp (dk D276 30 rfl) cs360).trans ?_
  refine (r_ge (dk D276 31 rfl) rfl).trans (ite2 ?_ ?_)
  · refine (r_aln (dk D276 32 rfl) rfl).trans ?_
    refine (r_il (dk D276 33 rfl) rfl).trans ?_
    refine (r_il (dk D276 34 rfl) rfl).trans ?_
    exact r_cv (dk D276 35 rfl) ow276 c12_189 mf187 (Nat.le_of_ble_eq_true rfl) rfl rfl (Nat.le_of_ble_eq_true rfl) (Nat.le_of_ble_eq_true rfl) ob_46
  · refine (r_inc (L' := [.ref 46, .int l1, .long l2, .retAddr 0, .int l4, .int l5, .int (l6 + 10), .int l7, .retAddr 0, .retAddr 0, .retAddr 0]) (dk D276 75 rfl) rfl rfl ci10 (Nat.le_of_ble_eq_true rfl) rfl).trans ?_
    refine (r_goto (L' := [.ref 46, .int l1, .long l2, .retAddr 0, .int l4, .int l5, .int (l6 + 10), .retAddr 0, .retAddr 0, .retAddr 0, .retAddr 0]) (dk D276 76 rfl) rfl nd276_41 rfl).trans ?_
    exact rfl
theorem E276_67 {d sl : Nat} {p : Nat → Nat} {I : Nat → Nat → Int32} {J : Nat → Nat → Int64} (l1 : Int32) (l2 : Int64) (l4 : Int32) (l5 : Int32) (l6 : Int32) (l7 : Int32)  : ev d 276 67 [.ref 46, .int l1, .long l2, .retAddr 0, .int l4, .int l5, .int l6, .int l7, .retAddr 0, .retAddr 0, .retAddr 0] [] (S sl p I J) = ev d 276 73 [.ref 46, .int l1, .long l2, .retAddr 0, .int l4, .int l5, .int l6, .int l7, .long 0, .retAddr 0, .int 0] [] (S sl p I J) := by
  refine (r_lc (dk D276 36 rfl) cl0).trans ?_
  refine (r_ls (L' := [.ref 46, .int l1, .long l2, .retAddr 0, .int l4, .int l5, .int l6, .int l7, .long 0, .retAddr 0, .retAddr 0]) (dk D276 37 rfl) (Nat.le_of_ble_eq_true rfl) rfl).trans ?_
  refine (r_ic (dk D276 38 rfl) ci0).trans ?_
  refine (r_is (L' := [.ref 46, .int l1, .long l2, .retAddr 0, .int l4, .int l5, .int l6, .int l7, .long 0, .retAddr 0, .int 0]) (dk D276 39 rfl) (Nat.le_of_ble_eq_true rfl) rfl).trans ?_
  exact rfl
theorem E276_73 {d sl : Nat} {p : Nat → Nat} {I : Nat → Nat → Int32} {J : Nat → Nat → Int64} (l1 : Int32) (l2 : Int64) (l4 : Int32) (l5 : Int32) (l6 : Int32) (l7 : Int32) (l8 : Int64) (l10 : Int32)  : ev (d + 1) 276 73 [.ref 46, .int l1, .long l2, .retAddr 0, .int l4, .int l5, .int l6, .int l7, .long l8, .retAddr 0, .int l10] [] (S sl p I J) = (if l10 < (I 46 2) then evK (d + 1) 276 105 [.ref 46, .int l1, .long l2, .retAddr 0, .int l4, .int l5, .int l6, .int l7, .long l8, .retAddr 0, .int l10] [.long l8] (den d 196 [.ref 46, .int l10, .long (Int32.toInt64 (I 46 23)), .long (Int32.toInt64 (I 46 24)), .long (Int32.toInt64 (I 46 25))] (S sl p I J)) else (if l8 < l2 then ev (d + 1) 276 51 [.ref 46, .int l1, .long l8, .retAddr 0, .int l7, .int l6, .int l6, .int (l7 + 10), .retAddr 0, .retAddr 0, .retAddr 0] [] (S sl p I J) else ev (d + 1) 276 51 [.ref 46, .int l1, .long l2, .retAddr 0, .int l4, .int l5, .int l6, .int (l7 + 10), .retAddr 0, .retAddr 0, .retAddr 0] [] (S sl p I J))) := by
  refine (r_il (dk D276 40 rfl) rfl).trans ?_
  refine (r_aln (dk D276 41 rfl) rfl).trans ?_
  refine (r_getI (dk D276 42 rfl) ow276 q12_196 ob_46).trans ?_
  refine (r_ge (dk D276 43 rfl) rfl).trans (ite2 ?_ ?_)
  · refine (r_ll (dk D276 44 rfl) rfl).trans ?_
    refine (r_aln (dk D276 45 rfl) rfl).trans ?_
    refine (r_il (dk D276 46 rfl) rfl).trans ?_
    refine (r_aln (dk D276 47 rfl) rfl).trans ?_
    refine (r_getI (dk D276 48 rfl) ow276 q12_127 ob_46).trans ?_
    refine (r_i2l (dk D276 49 rfl)).trans ?_
    refine (r_aln (dk D276 50 rfl) rfl).trans ?_
    refine (r_getI (dk D276 51 rfl) ow276 q12_130 ob_46).trans ?_
    refine (r_i2l (dk D276 52 rfl)).trans ?_
    refine (r_aln (dk D276 53 rfl) rfl).trans ?_
    refine (r_getI (dk D276 54 rfl) ow276 q12_133 ob_46).trans ?_
    refine (r_i2l (dk D276 55 rfl)).trans ?_
    exact r_cv (dk D276 56 rfl) ow276 c12_174 mf196 (Nat.le_of_ble_eq_true rfl) rfl rfl (Nat.le_of_ble_eq_true rfl) (Nat.le_of_ble_eq_true rfl) ob_46
  · refine (r_ll (dk D276 62 rfl) rfl).trans ?_
    refine (r_lln (dk D276 63 rfl) rfl).trans ?_
    refine (r_jlt (dk D276 64 rfl) (dk D276 65 rfl) rfl).trans (ite2 ?_ ?_)
    · refine (r_ll (dk D276 67 rfl) rfl).trans ?_
      refine (r_lsn (L' := [.ref 46, .int l1, .long l8, .retAddr 0, .int l4, .int l5, .int l6, .int l7, .long l8, .retAddr 0, .int l10]) (dk D276 68 rfl) (Nat.le_of_ble_eq_true rfl) rfl).trans ?_
      refine (r_il (dk D276 69 rfl) rfl).trans ?_
      refine (r_is (L' := [.ref 46, .int l1, .long l8, .retAddr 0, .int l7, .int l5, .int l6, .int l7, .long l8, .retAddr 0, .int l10]) (dk D276 70 rfl) (Nat.le_of_ble_eq_true rfl) rfl).trans ?_
      refine (r_il (dk D276 71 rfl) rfl).trans ?_
      refine (r_is (L' := [.ref 46, .int l1, .long l8, .retAddr 0, .int l7, .int l6, .int l6, .int l7, .long l8, .retAddr 0, .int l10]) (dk D276 72 rfl) (Nat.le_of_ble_eq_true rfl) rfl).trans ?_
      refine (r_inc (L' := [.ref 46, .int l1, .long l8, .retAddr 0, .int l7, .int l6, .int l6, .int (l7 + 10), .long l8, .retAddr 0, .int l10]) (dk D276 73 rfl) rfl rfl ci10 (Nat.le_of_ble_eq_true rfl) rfl).trans ?_
      refine (r_goto (L' := [.ref 46, .int l1, .long l8, .retAddr 0, .int l7, .int l6, .int l6, .int (l7 + 10), .retAddr 0, .retAddr 0, .retAddr 0]) (dk D276 74 rfl) rfl nd276_51 rfl).trans ?_
      exact rfl
    · refine (r_goto (L' := [.ref 46, .int l1, .long l2, .retAddr 0, .int l4, .int l5, .int l6, .int l7, .long l8, .retAddr 0, .int l10]) (dk D276 66 rfl) rfl nd276_136 rfl).trans ?_
      refine (r_inc (L' := [.ref 46, .int l1, .long l2, .retAddr 0, .int l4, .int l5, .int l6, .int (l7 + 10), .long l8, .retAddr 0, .int l10]) (dk D276 73 rfl) rfl rfl ci10 (Nat.le_of_ble_eq_true rfl) rfl).trans ?_
      refine (r_goto (L' := [.ref 46, .int l1, .long l2, .retAddr 0, .int l4, .int l5, .int l6, .int (l7 + 10), .retAddr 0, .retAddr 0, .retAddr 0]) (dk D276 74 rfl) rfl nd276_51 rfl).trans ?_
      exact rfl
theorem E276_105 {d sl : Nat} {p : Nat → Nat} {I : Nat → Nat → Int32} {J : Nat → Nat → Int64} (l1 : Int32) (l2 : Int64) (l4 : Int32) (l5 : Int32) (l6 : Int32) (l7 : Int32) (l8 : Int64) (l10 : Int32) (s0 : Int32) (s1 : Int64)  : ev d 276 105 [.ref 46, .int l1, .long l2, .retAddr 0, .int l4, .int l5, .int l6, .int l7, .long l8, .retAddr 0, .int l10] [.int s0, .long s1] (S sl p I J) = ev d 276 73 [.ref 46, .int l1, .long l2, .retAddr 0, .int l4, .int l5, .int l6, .int l7, .long (s1 + (Int32.toInt64 s0)), .retAddr 0, .int (l10 + 1)] [] (S sl p I J) := by
  refine (r_i2l (dk D276 57 rfl)).trans ?_
  refine (r_ladd (dk D276 58 rfl)).trans ?_
  refine (r_ls (L' := [.ref 46, .int l1, .long l2, .retAddr 0, .int l4, .int l5, .int l6, .int l7, .long (s1 + (Int32.toInt64 s0)), .retAddr 0, .int l10]) (dk D276 59 rfl) (Nat.le_of_ble_eq_true rfl) rfl).trans ?_
  refine (r_inc (L' := [.ref 46, .int l1, .long l2, .retAddr 0, .int l4, .int l5, .int l6, .int l7, .long (s1 + (Int32.toInt64 s0)), .retAddr 0, .int (l10 + 1)]) (dk D276 60 rfl) rfl rfl ci1 (Nat.le_of_ble_eq_true rfl) rfl).trans ?_
  refine (r_goto (L' := [.ref 46, .int l1, .long l2, .retAddr 0, .int l4, .int l5, .int l6, .int l7, .long (s1 + (Int32.toInt64 s0)), .retAddr 0, .int (l10 + 1)]) (dk D276 61 rfl) rfl nd276_73 rfl).trans ?_
  exact rfl
theorem E276_170 {d sl : Nat} {p : Nat → Nat} {I : Nat → Nat → Int32} {J : Nat → Nat → Int64} (l1 : Int32) (l2 : Int64) (l4 : Int32) (l5 : Int32) (l6 : Int32) (s0 : Int32)  : ev (d + 1) 276 170 [.ref 46, .int l1, .long l2, .retAddr 0, .int l4, .int l5, .int l6, .retAddr 0, .retAddr 0, .retAddr 0, .retAddr 0] [.int s0, .ref 46] (S sl p I J) = evK (d + 1) 276 173 [.ref 46, .int l1, .long l2, .retAddr 0, .int l4, .int l5, .int l6, .retAddr 0, .retAddr 0, .retAddr 0, .retAddr 0] [] (den d 179 [.ref 46, .int s0] (S sl p I J)) := by
  exact r_cv (dk D276 89 rfl) ow276 c12_193 mf179 (Nat.le_of_ble_eq_true rfl) rfl rfl (Nat.le_of_ble_eq_true rfl) (Nat.le_of_ble_eq_true rfl) ob_46
theorem E276_173 {d sl : Nat} {p : Nat → Nat} {I : Nat → Nat → Int32} {J : Nat → Nat → Int64} (l1 : Int32) (l2 : Int64) (l4 : Int32) (l5 : Int32) (l6 : Int32) (s0 : Int32)  : ev d 276 173 [.ref 46, .int l1, .long l2, .retAddr 0, .int l4, .int l5, .int l6, .retAddr 0, .retAddr 0, .retAddr 0, .retAddr 0] [.int s0] (S sl p I J) = some (some (.int s0), (S sl p I J)) := by
  exact r_ret (dk D276 90 rfl) rt276
set_option maxRecDepth 20000 in
theorem D277 : dOK 277 [(0, .iload_n 1, 1), (1, .iload_n 2, 1), (2, .invokestatic 199, 3), (5, .ifCond .eq 13, 3), (8, .iload_n 3, 1), (9, .iconst 0, 1), (10, .bipush 90, 2), (12, .invokestatic 178, 3), (15, .ifCond .ne 9, 3), (18, .aload_n 0, 1), (19, .iconst 1, 1), (20, .invokevirtual 183, 3), (23, .ireturn, 1), (24, .aload_n 0, 1), (25, .iload_n 1, 1), (26, .iload_n 2, 1), (27, .invokevirtual 207, 3), (30, .iconst 0, 1), (31, .istore 4, 2), (33, .iconst 0, 1), (34, .istore 5, 2), (36, .iload 5, 2), (38, .aload_n 0, 1), (39, .getfield 186, 3), (42, .if_icmp .ge 120, 3), (45, .iload 4, 2), (47, .aload_n 0, 1), (48, .getfield 59, 3), (51, .iload 5, 2), (53, .iaload, 1), (54, .i2l, 1), (55, .aload_n 0, 1), (56, .getfield 62, 3), (59, .iload 5, 2), (61, .iaload, 1), (62, .i2l, 1), (63, .aload_n 0, 1), (64, .getfield 65, 3), (67, .iload 5, 2), (69, .iaload, 1), (70, .i2l, 1), (71, .aload_n 0, 1), (72, .getfield 127, 3), (75, .i2l, 1), (76, .aload_n 0, 1), (77, .getfield 130, 3), (80, .i2l, 1), (81, .aload_n 0, 1), (82, .getfield 133, 3), (85, .i2l, 1), (86, .invokestatic 136, 3), (89, .aload_n 0, 1), (90, .getfield 59, 3), (93, .iload 5, 2), (95, .iaload, 1), (96, .i2l, 1), (97, .aload_n 0, 1), (98, .getfield 62, 3), (101, .iload 5, 2), (103, .iaload, 1), (104, .i2l, 1), (105, .aload_n 0, 1), (106, .getfield 65, 3), (109, .iload 5, 2), (111, .iaload, 1), (112, .i2l, 1), (113, .invokestatic 146, 3), (116, .aload_n 0, 1), (117, .getfield 127, 3), (120, .i2l, 1), (121, .aload_n 0, 1), (122, .getfield 130, 3), (125, .i2l, 1), (126, .aload_n 0, 1), (127, .getfield 133, 3), (130, .i2l, 1), (131, .invokestatic 146, 3), (134, .lmul, 1), (135, .bipush 90, 2), (137, .iload_n 3, 1), (138, .isub, 1), (139, .invokestatic 142, 3), (142, .ifCond .eq 7, 3), (145, .iconst 0, 1), (146, .goto 7, 3), (149, .iconst 1, 1), (150, .iload 5, 2), (152, .ishl, 1), (153, .ior, 1), (154, .istore 4, 2), (156, .iinc 5 1, 3), (159, .goto (-123), 3), (162, .aload_n 0, 1), (163, .iload 4, 2), (165, .invokevirtual 193, 3), (168, .ireturn, 1)] = true := by decide +kernel
theorem E277_0 {d sl : Nat} {p : Nat → Nat} {I : Nat → Nat → Int32} {J : Nat → Nat → Int64} (a1 : Int32) (a2 : Int32) (a3 : Int32)  : den (d + 1) 277 [.ref 46, .int a1, .int a2, .int a3] (S sl p I J) = evK (d + 1) 277 5 [.ref 46, .int a1, .int a2, .int a3, .retAddr 0, .retAddr 0] [] (den d 199 [.int a1, .int a2] (S sl p I J)) := by
  refine (show den (d + 1) 277 [.ref 46, .int a1, .int a2, .int a3] (S sl p I J) = ev (d + 1) 277 0 [.ref 46, .int a1, .int a2, .int a3, .retAddr 0, .retAddr 0] [] (S sl p I J) from rfl).trans ?_
  refine (r_iln (dk D277 0 rfl) rfl).trans ?_
  refine (r_iln (dk D277 1 rfl) rfl).trans ?_
  exact r_cs (dk D277 2 rfl) ow277 pn12_199 c12_199 mf199 (Nat.le_of_ble_eq_true rfl) rfl rfl (Nat.le_of_ble_eq_true rfl) (Nat.le_of_ble_eq_true rfl)
theorem E277_5 {d sl : Nat} {p : Nat → Nat} {I : Nat → Nat → Int32} {J : Nat → Nat → Int64} (l1 : Int32) (l2 : Int32) (l3 : Int32) (s0 : Int32)  : ev (d + 1) 277 5 [.ref 46, .int l1, .int l2, .int l3, .retAddr 0, .retAddr 0] [.int s0] (S sl p I J) = (if s0 = 0 then ev (d + 1) 277 18 [.ref 46, .int l1, .int l2, .int l3, .retAddr 0, .retAddr 0] [] (S sl p I J) else evK (d + 1) 277 15 [.ref 46, .int l1, .int l2, .int l3, .retAddr 0, .retAddr 0] [] (den d 181 [.int l3, .int 0, .int 90] (S sl p I J))) := by
  refine (r_eq0 (dk D277 3 rfl) rfl).trans (ite2 ?_ ?_)
  · exact rfl
  · refine (r_iln (dk D277 4 rfl) rfl).trans ?_
    refine (r_ic (dk D277 5 rfl) ci0).trans ?_
    refine (r_bp (dk D277 6 rfl) cb90).trans ?_
    exact r_cs (dk D277 7 rfl) ow277 pn12_178 c12_178 mf181 (Nat.le_of_ble_eq_true rfl) rfl rfl (Nat.le_of_ble_eq_true rfl) (Nat.le_of_ble_eq_true rfl)
theorem E277_15 {d sl : Nat} {p : Nat → Nat} {I : Nat → Nat → Int32} {J : Nat → Nat → Int64} (l1 : Int32) (l2 : Int32) (l3 : Int32) (s0 : Int32)  : ev (d + 1) 277 15 [.ref 46, .int l1, .int l2, .int l3, .retAddr 0, .retAddr 0] [.int s0] (S sl p I J) = (if s0 = 0 then ev (d + 1) 277 18 [.ref 46, .int l1, .int l2, .int l3, .retAddr 0, .retAddr 0] [] (S sl p I J) else evK (d + 1) 277 30 [.ref 46, .int l1, .int l2, .int l3, .retAddr 0, .retAddr 0] [] (den d 186 [.ref 46, .int l1, .int l2] (S sl p I J))) := by
  refine (r_ne0 (dk D277 8 rfl) rfl).trans (ite2 ?_ ?_)
  · exact rfl
  · refine (r_aln (dk D277 13 rfl) rfl).trans ?_
    refine (r_iln (dk D277 14 rfl) rfl).trans ?_
    refine (r_iln (dk D277 15 rfl) rfl).trans ?_
    exact r_cv (dk D277 16 rfl) ow277 c12_207 mf186 (Nat.le_of_ble_eq_true rfl) rfl rfl (Nat.le_of_ble_eq_true rfl) (Nat.le_of_ble_eq_true rfl) ob_46
theorem E277_18 {d sl : Nat} {p : Nat → Nat} {I : Nat → Nat → Int32} {J : Nat → Nat → Int64} (l1 : Int32) (l2 : Int32) (l3 : Int32)  : ev (d + 1) 277 18 [.ref 46, .int l1, .int l2, .int l3, .retAddr 0, .retAddr 0] [] (S sl p I J) = evK (d + 1) 277 23 [.ref 46, .int l1, .int l2, .int l3, .retAddr 0, .retAddr 0] [] (den d 178 [.ref 46, .int 1] (S sl p I J)) := by
  refine (r_aln (dk D277 9 rfl) rfl).trans ?_
  refine (r_ic (dk D277 10 rfl) ci1).trans ?_
  exact r_cv (dk D277 11 rfl) ow277 c12_183 mf178 (Nat.le_of_ble_eq_true rfl) rfl rfl (Nat.le_of_ble_eq_true rfl) (Nat.le_of_ble_eq_true rfl) ob_46
theorem E277_23 {d sl : Nat} {p : Nat → Nat} {I : Nat → Nat → Int32} {J : Nat → Nat → Int64} (l1 : Int32) (l2 : Int32) (l3 : Int32) (s0 : Int32)  : ev d 277 23 [.ref 46, .int l1, .int l2, .int l3, .retAddr 0, .retAddr 0] [.int s0] (S sl p I J) = some (some (.int s0), (S sl p I J)) := by
  exact r_ret (dk D277 12 rfl) rt277
theorem E277_30 {d sl : Nat} {p : Nat → Nat} {I : Nat → Nat → Int32} {J : Nat → Nat → Int64} (l1 : Int32) (l2 : Int32) (l3 : Int32)  : ev d 277 30 [.ref 46, .int l1, .int l2, .int l3, .retAddr 0, .retAddr 0] [] (S sl p I J) = ev d 277 36 [.ref 46, .int l1, .int l2, .int l3, .int 0, .int 0] [] (S sl p I J) := by
  refine (r_ic (dk D277 17 rfl) ci0).trans ?_
  refine (r_is (L' := [.ref 46, .int l1, .int l2, .int l3, .int 0, .retAddr 0]) (dk D277 18 rfl) (Nat.le_of_ble_eq_true rfl) rfl).trans ?_
  refine (r_ic (dk D277 19 rfl) ci0).trans ?_
  refine (r_is (L' := [.ref 46, .int l1, .int l2, .int l3, .int 0, .int 0]) (dk D277 20 rfl) (Nat.le_of_ble_eq_true rfl) rfl).trans ?_
  exact rfl
theorem E277_36 {d sl : Nat} {p : Nat → Nat} {I : Nat → Nat → Int32} {J : Nat → Nat → Int64} (l1 : Int32) (l2 : Int32) (l3 : Int32) (l4 : Int32) (l5 : Int32)  : ev (d + 1) 277 36 [.ref 46, .int l1, .int l2, .int l3, .int l4, .int l5] [] (S sl p I J) = (if l5 < (I 46 1) then ck (ixb 6 l5) (ck (ixb 6 l5) (ck (ixb 6 l5) (evK (d + 1) 277 89 [.ref 46, .int l1, .int l2, .int l3, .int l4, .int l5] [.int l4] (den d 188 [.long (Int32.toInt64 (I 57 (Int32.toNatClampNeg l5))), .long (Int32.toInt64 (I 58 (Int32.toNatClampNeg l5))), .long (Int32.toInt64 (I 59 (Int32.toNatClampNeg l5))), .long (Int32.toInt64 (I 46 23)), .long (Int32.toInt64 (I 46 24)), .long (Int32.toInt64 (I 46 25))] (S sl p I J))))) else evK (d + 1) 277 168 [.ref 46, .int l1, .int l2, .int l3, .int l4, .int l5] [] (den d 179 [.ref 46, .int l4] (S sl p I J))) := by
  refine (r_il (dk D277 21 rfl) rfl).trans ?_
  refine (r_aln (dk D277 22 rfl) rfl).trans ?_
  refine (r_getI (dk D277 23 rfl) ow277 q12_186 ob_46).trans ?_
  refine (r_ge (dk D277 24 rfl) rfl).trans (ite2 ?_ ?_)
  · refine (r_il (dk D277 25 rfl) rfl).trans ?_
    refine (r_aln (dk D277 26 rfl) rfl).trans ?_
    refine (r_getR (dk D277 27 rfl) ow277 q12_59 ob_46 rfl).trans ?_
    refine (r_il (dk D277 28 rfl) rfl).trans ?_
    refine (r_ild (dk D277 29 rfl) ar_57).trans (ck3 fun g1 => ?_)
    refine (r_i2l (dk D277 30 rfl)).trans ?_
    refine (r_aln (dk D277 31 rfl) rfl).trans ?_
    refine (r_getR (dk D277 32 rfl) ow277 q12_62 ob_46 rfl).trans ?_
    refine (r_il (dk D277 33 rfl) rfl).trans ?_
    refine (r_ild (dk D277 34 rfl) ar_58).trans (ck3 fun g2 => ?_)
    refine (r_i2l (dk D277 35 rfl)).trans ?_
    refine (r_aln (dk D277 36 rfl) rfl).trans ?_
    refine (r_getR (dk D277 37 rfl) ow277 q12_65 ob_46 rfl).trans ?_
    refine (r_il (dk D277 38 rfl) rfl).trans ?_
    refine (r_ild (dk D277 39 rfl) ar_59).trans (ck3 fun g3 => ?_)
    refine (r_i2l (dk D277 40 rfl)).trans ?_
    refine (r_aln (dk D277 41 rfl) rfl).trans ?_
    refine (r_getI (dk D277 42 rfl) ow277 q12_127 ob_46).trans ?_
    refine (r_i2l (dk D277 43 rfl)).trans ?_
    refine (r_aln (dk D277 44 rfl) rfl).trans ?_
    refine (r_getI (dk D277 45 rfl) ow277 q12_130 ob_46).trans ?_
    refine (r_i2l (dk D277 46 rfl)).trans ?_
    refine (r_aln (dk D277 47 rfl) rfl).trans ?_
    refine (r_getI (dk D277 48 rfl) ow277 q12_133 ob_46).trans ?_
    refine (r_i2l (dk D277 49 rfl)).trans ?_
    exact r_cs (dk D277 50 rfl) ow277 pn12_136 c12_136 mf188 (Nat.le_of_ble_eq_true rfl) rfl rfl (Nat.le_of_ble_eq_true rfl) (Nat.le_of_ble_eq_true rfl)
  · refine (r_aln (dk D277 92 rfl) rfl).trans ?_
    refine (r_il (dk D277 93 rfl) rfl).trans ?_
    exact r_cv (dk D277 94 rfl) ow277 c12_193 mf179 (Nat.le_of_ble_eq_true rfl) rfl rfl (Nat.le_of_ble_eq_true rfl) (Nat.le_of_ble_eq_true rfl) ob_46
theorem E277_89 {d sl : Nat} {p : Nat → Nat} {I : Nat → Nat → Int32} {J : Nat → Nat → Int64} (l1 : Int32) (l2 : Int32) (l3 : Int32) (l4 : Int32) (l5 : Int32) (s0 : Int64) (s1 : Int32)  : ev (d + 1) 277 89 [.ref 46, .int l1, .int l2, .int l3, .int l4, .int l5] [.long s0, .int s1] (S sl p I J) = ck (ixb 6 l5) (ck (ixb 6 l5) (ck (ixb 6 l5) (evK (d + 1) 277 116 [.ref 46, .int l1, .int l2, .int l3, .int l4, .int l5] [.long s0, .int s1] (den d 189 [.long (Int32.toInt64 (I 57 (Int32.toNatClampNeg l5))), .long (Int32.toInt64 (I 58 (Int32.toNatClampNeg l5))), .long (Int32.toInt64 (I 59 (Int32.toNatClampNeg l5)))] (S sl p I J))))) := by
  refine (r_aln (dk D277 51 rfl) rfl).trans ?_
  refine (r_getR (dk D277 52 rfl) ow277 q12_59 ob_46 rfl).trans ?_
  refine (r_il (dk D277 53 rfl) rfl).trans ?_
  refine (r_ild (dk D277 54 rfl) ar_57).trans (ck3 fun g1 => ?_)
  refine (r_i2l (dk D277 55 rfl)).trans ?_
  refine (r_aln (dk D277 56 rfl) rfl).trans ?_
  refine (r_getR (dk D277 57 rfl) ow277 q12_62 ob_46 rfl).trans ?_
  refine (r_il (dk D277 58 rfl) rfl).trans ?_
  refine (r_ild (dk D277 59 rfl) ar_58).trans (ck3 fun g2 => ?_)
  refine (r_i2l (dk D277 60 rfl)).trans ?_
  refine (r_aln (dk D277 61 rfl) rfl).trans ?_
  refine (r_getR (dk D277 62 rfl) ow277 q12_65 ob_46 rfl).trans ?_
  refine (r_il (dk D277 63 rfl) rfl).trans ?_
  refine (r_ild (dk D277 64 rfl) ar_59).trans (ck3 fun g3 => ?_)
  refine (r_i2l (dk D277 65 rfl)).trans ?_
  exact r_cs (dk D277 66 rfl) ow277 pn12_146 c12_146 mf189 (Nat.le_of_ble_eq_true rfl) rfl rfl (Nat.le_of_ble_eq_true rfl) (Nat.le_of_ble_eq_true rfl)
theorem E277_116 {d sl : Nat} {p : Nat → Nat} {I : Nat → Nat → Int32} {J : Nat → Nat → Int64} (l1 : Int32) (l2 : Int32) (l3 : Int32) (l4 : Int32) (l5 : Int32) (s0 : Int64) (s1 : Int64) (s2 : Int32)  : ev (d + 1) 277 116 [.ref 46, .int l1, .int l2, .int l3, .int l4, .int l5] [.long s0, .long s1, .int s2] (S sl p I J) = evK (d + 1) 277 134 [.ref 46, .int l1, .int l2, .int l3, .int l4, .int l5] [.long s0, .long s1, .int s2] (den d 189 [.long (Int32.toInt64 (I 46 23)), .long (Int32.toInt64 (I 46 24)), .long (Int32.toInt64 (I 46 25))] (S sl p I J)) := by
  refine (r_aln (dk D277 67 rfl) rfl).trans ?_
  refine (r_getI (dk D277 68 rfl) ow277 q12_127 ob_46).trans ?_
  refine (r_i2l (dk D277 69 rfl)).trans ?_
  refine (r_aln (dk D277 70 rfl) rfl).trans ?_
  refine (r_getI (dk D277 71 rfl) ow277 q12_130 ob_46).trans ?_
  refine (r_i2l (dk D277 72 rfl)).trans ?_
  refine (r_aln (dk D277 73 rfl) rfl).trans ?_
  refine (r_getI (dk D277 74 rfl) ow277 q12_133 ob_46).trans ?_
  refine (r_i2l (dk D277 75 rfl)).trans ?_
  exact r_cs (dk D277 76 rfl) ow277 pn12_146 c12_146 mf189 (Nat.le_of_ble_eq_true rfl) rfl rfl (Nat.le_of_ble_eq_true rfl) (Nat.le_of_ble_eq_true rfl)
theorem E277_134 {d sl : Nat} {p : Nat → Nat} {I : Nat → Nat → Int32} {J : Nat → Nat → Int64} (l1 : Int32) (l2 : Int32) (l3 : Int32) (l4 : Int32) (l5 : Int32) (s0 : Int64) (s1 : Int64) (s2 : Int64) (s3 : Int32)  : ev (d + 1) 277 134 [.ref 46, .int l1, .int l2, .int l3, .int l4, .int l5] [.long s0, .long s1, .long s2, .int s3] (S sl p I J) = evK (d + 1) 277 142 [.ref 46, .int l1, .int l2, .int l3, .int l4, .int l5] [.int s3] (den d 190 [.long s2, .long (s1 * s0), .int (90 - l3)] (S sl p I J)) := by
  refine (r_lmul (dk D277 77 rfl)).trans ?_
  refine (r_bp (dk D277 78 rfl) cb90).trans ?_
  refine (r_iln (dk D277 79 rfl) rfl).trans ?_
  refine (r_isub (dk D277 80 rfl)).trans ?_
  exact r_cs (dk D277 81 rfl) ow277 pn12_142 c12_142 mf190 (Nat.le_of_ble_eq_true rfl) rfl rfl (Nat.le_of_ble_eq_true rfl) (Nat.le_of_ble_eq_true rfl)
theorem E277_142 {d sl : Nat} {p : Nat → Nat} {I : Nat → Nat → Int32} {J : Nat → Nat → Int64} (l1 : Int32) (l2 : Int32) (l3 : Int32) (l4 : Int32) (l5 : Int32) (s0 : Int32) (s1 : Int32)  : ev d 277 142 [.ref 46, .int l1, .int l2, .int l3, .int l4, .int l5] [.int s0, .int s1] (S sl p I J) = (if s0 = 0 then ev d 277 36 [.ref 46, .int l1, .int l2, .int l3, .int (s1 ||| (1 <<< (l5 &&& 31))), .int (l5 + 1)] [] (S sl p I J) else ev d 277 36 [.ref 46, .int l1, .int l2, .int l3, .int (s1 ||| 0), .int (l5 + 1)] [] (S sl p I J)) := by
  refine (r_eq0 (dk D277 82 rfl) rfl).trans (ite2 ?_ ?_)
  · refine (r_ic (dk D277 85 rfl) ci1).trans ?_
    refine (r_il (dk D277 86 rfl) rfl).trans ?_
    refine (r_ishl (dk D277 87 rfl)).trans ?_
    refine (r_ior (dk D277 88 rfl)).trans ?_
    refine (r_is (L' := [.ref 46, .int l1, .int l2, .int l3, .int (s1 ||| (1 <<< (l5 &&& 31))), .int l5]) (dk D277 89 rfl) (Nat.le_of_ble_eq_true rfl) rfl).trans ?_
    refine (r_inc (L' := [.ref 46, .int l1, .int l2, .int l3, .int (s1 ||| (1 <<< (l5 &&& 31))), .int (l5 + 1)]) (dk D277 90 rfl) rfl rfl ci1 (Nat.le_of_ble_eq_true rfl) rfl).trans ?_
    refine (r_goto (L' := [.ref 46, .int l1, .int l2, .int l3, .int (s1 ||| (1 <<< (l5 &&& 31))), .int (l5 + 1)]) (dk D277 91 rfl) rfl nd277_36 rfl).trans ?_
    exact rfl
  · refine (r_ic (dk D277 83 rfl) ci0).trans ?_
    refine (r_goto (L' := [.ref 46, .int l1, .int l2, .int l3, .int l4, .int l5]) (dk D277 84 rfl) rfl nd277_153 rfl).trans ?_
    refine (r_ior (dk D277 88 rfl)).trans ?_
    refine (r_is (L' := [.ref 46, .int l1, .int l2, .int l3, .int (s1 ||| 0), .int l5]) (dk D277 89 rfl) (Nat.le_of_ble_eq_true rfl) rfl).trans ?_
    refine (r_inc (L' := [.ref 46, .int l1, .int l2, .int l3, .int (s1 ||| 0), .int (l5 + 1)]) (dk D277 90 rfl) rfl rfl ci1 (Nat.le_of_ble_eq_true rfl) rfl).trans ?_
    refine (r_goto (L' := [.ref 46, .int l1, .int l2, .int l3, .int (s1 ||| 0), .int (l5 + 1)]) (dk D277 91 rfl) rfl nd277_36 rfl).trans ?_
    exact rfl
theorem E277_168 {d sl : Nat} {p : Nat → Nat} {I : Nat → Nat → Int32} {J : Nat → Nat → Int64} (l1 : Int32) (l2 : Int32) (l3 : Int32) (l4 : Int32) (l5 : Int32) (s0 : Int32)  : ev d 277 168 [.ref 46, .int l1, .int l2, .int l3, .int l4, .int l5] [.int s0] (S sl p I J) = some (some (.int s0), (S sl p I J)) := by
  exact r_ret (dk D277 95 rfl) rt277
set_option maxRecDepth 20000 in
theorem D278 : dOK 278 [(0, .iload_n 1, 1), (1, .iconst 0, 1), (2, .bipush 90, 2), (4, .invokestatic 178, 3), (7, .ifCond .eq 12, 3), (10, .iload_n 2, 1), (11, .iconst 0, 1), (12, .iconst 2, 1), (13, .invokestatic 178, 3), (16, .ifCond .ne 9, 3), (19, .aload_n 0, 1), (20, .iconst 1, 1), (21, .invokevirtual 183, 3), (24, .ireturn, 1), (25, .aload_n 0, 1), (26, .getfield 196, 3), (29, .ifCond .ne 9, 3), (32, .aload_n 0, 1), (33, .iconst 5, 1), (34, .invokevirtual 183, 3), (37, .ireturn, 1), (38, .iconst (-1), 1), (39, .istore_n 3, 1), (40, .iconst 0, 1), (41, .istore 4, 2), (43, .iconst 0, 1), (44, .istore 5, 2), (46, .iconst 0, 1), (47, .istore 6, 2), (49, .iload 6, 2), (51, .bipush 90, 2), (53, .if_icmp .gt 57, 3), (56, .iconst 0, 1), (57, .istore 7, 2), (59, .iload 7, 2), (61, .sipush 360, 3), (64, .if_icmp .ge 40, 3), (67, .aload_n 0, 1), (68, .iload 7, 2), (70, .iload 6, 2), (72, .iload_n 1, 1), (73, .invokevirtual 390, 3), (76, .istore 8, 2), (78, .iload 8, 2), (80, .iload_n 3, 1), (81, .if_icmp .gt 6, 3), (84, .goto 14, 3), (87, .iload 8, 2), (89, .istore_n 3, 1), (90, .iload 7, 2), (92, .istore 4, 2), (94, .iload 6, 2), (96, .istore 5, 2), (98, .iinc 7 10, 3), (101, .goto (-42), 3), (104, .iinc 6 10, 3), (107, .goto (-58), 3), (110, .aload_n 0, 1), (111, .iload_n 2, 1), (112, .ifCond .ne 8, 3), (115, .iload 4, 2), (117, .goto 14, 3), (120, .iload_n 2, 1), (121, .iconst 1, 1), (122, .if_icmp .ne 8, 3), (125, .iload 5, 2), (127, .goto 4, 3), (130, .iload_n 3, 1), (131, .invokevirtual 193, 3), (134, .ireturn, 1)] = true := by decide +kernel
theorem E278_0 {d sl : Nat} {p : Nat → Nat} {I : Nat → Nat → Int32} {J : Nat → Nat → Int64} (a1 : Int32) (a2 : Int32)  : den (d + 1) 278 [.ref 46, .int a1, .int a2] (S sl p I J) = evK (d + 1) 278 7 [.ref 46, .int a1, .int a2, .retAddr 0, .retAddr 0, .retAddr 0, .retAddr 0, .retAddr 0, .retAddr 0] [] (den d 181 [.int a1, .int 0, .int 90] (S sl p I J)) := by
  refine (show den (d + 1) 278 [.ref 46, .int a1, .int a2] (S sl p I J) = ev (d + 1) 278 0 [.ref 46, .int a1, .int a2, .retAddr 0, .retAddr 0, .retAddr 0, .retAddr 0, .retAddr 0, .retAddr 0] [] (S sl p I J) from rfl).trans ?_
  refine (r_iln (dk D278 0 rfl) rfl).trans ?_
  refine (r_ic (dk D278 1 rfl) ci0).trans ?_
  refine (r_bp (dk D278 2 rfl) cb90).trans ?_
  exact r_cs (dk D278 3 rfl) ow278 pn12_178 c12_178 mf181 (Nat.le_of_ble_eq_true rfl) rfl rfl (Nat.le_of_ble_eq_true rfl) (Nat.le_of_ble_eq_true rfl)
theorem E278_7 {d sl : Nat} {p : Nat → Nat} {I : Nat → Nat → Int32} {J : Nat → Nat → Int64} (l1 : Int32) (l2 : Int32) (s0 : Int32)  : ev (d + 1) 278 7 [.ref 46, .int l1, .int l2, .retAddr 0, .retAddr 0, .retAddr 0, .retAddr 0, .retAddr 0, .retAddr 0] [.int s0] (S sl p I J) = (if s0 = 0 then ev (d + 1) 278 19 [.ref 46, .int l1, .int l2, .retAddr 0, .retAddr 0, .retAddr 0, .retAddr 0, .retAddr 0, .retAddr 0] [] (S sl p I J) else evK (d + 1) 278 16 [.ref 46, .int l1, .int l2, .retAddr 0, .retAddr 0, .retAddr 0, .retAddr 0, .retAddr 0, .retAddr 0] [] (den d 181 [.int l2, .int 0, .int 2] (S sl p I J))) := by
  refine (r_eq0 (dk D278 4 rfl) rfl).trans (ite2 ?_ ?_)
  · exact rfl
  · refine (r_iln (dk D278 5 rfl) rfl).trans ?_
    refine (r_ic (dk D278 6 rfl) ci0).trans ?_
    refine (r_ic (dk D278 7 rfl) ci2).trans ?_
    exact r_cs (dk D278 8 rfl) ow278 pn12_178 c12_178 mf181 (Nat.le_of_ble_eq_true rfl) rfl rfl (Nat.le_of_ble_eq_true rfl) (Nat.le_of_ble_eq_true rfl)
theorem E278_16 {d sl : Nat} {p : Nat → Nat} {I : Nat → Nat → Int32} {J : Nat → Nat → Int64} (l1 : Int32) (l2 : Int32) (s0 : Int32)  : ev (d + 1) 278 16 [.ref 46, .int l1, .int l2, .retAddr 0, .retAddr 0, .retAddr 0, .retAddr 0, .retAddr 0, .retAddr 0] [.int s0] (S sl p I J) = (if s0 = 0 then ev (d + 1) 278 19 [.ref 46, .int l1, .int l2, .retAddr 0, .retAddr 0, .retAddr 0, .retAddr 0, .retAddr 0, .retAddr 0] [] (S sl p I J) else (if (I 46 2) = 0 then evK (d + 1) 278 37 [.ref 46, .int l1, .int l2, .retAddr 0, .retAddr 0, .retAddr 0, .retAddr 0, .retAddr 0, .retAddr 0] [] (den d 178 [.ref 46, .int 5] (S sl p I J)) else ev (d + 1) 278 49 [.ref 46, .int l1, .int l2, .int (-1), .int 0, .int 0, .int 0, .retAddr 0, .retAddr 0] [] (S sl p I J))) := by
  refine (r_ne0 (dk D278 9 rfl) rfl).trans (ite2 ?_ ?_)
  · exact rfl
  · refine (r_aln (dk D278 14 rfl) rfl).trans ?_
    refine (r_getI (dk D278 15 rfl) ow278 q12_196 ob_46).trans ?_
    refine (r_ne0 (dk D278 16 rfl) rfl).trans (ite2 ?_ ?_)
    · refine (r_aln (dk D278 17 rfl) rfl).trans ?_
      refine (r_ic (dk D278 18 rfl) ci5).trans ?_
      exact r_cv (dk D278 19 rfl) ow278 c12_183 mf178 (Nat.le_of_ble_eq_true rfl) rfl rfl (Nat.le_of_ble_eq_true rfl) (Nat.le_of_ble_eq_true rfl) ob_46
    · refine (r_ic (dk D278 21 rfl) cim1).trans ?_
      refine (r_isn (L' := [.ref 46, .int l1, .int l2, .int (-1), .retAddr 0, .retAddr 0, .retAddr 0, .retAddr 0, .retAddr 0]) (dk D278 22 rfl) (Nat.le_of_ble_eq_true rfl) rfl).trans ?_
      refine (r_ic (dk D278 23 rfl) ci0).trans ?_
      refine (r_is (L' := [.ref 46, .int l1, .int l2, .int (-1), .int 0, .retAddr 0, .retAddr 0, .retAddr 0, .retAddr 0]) (dk D278 24 rfl) (Nat.le_of_ble_eq_true rfl) rfl).trans ?_
      refine (r_ic (dk D278 25 rfl) ci0).trans ?_
      refine (r_is (L' := [.ref 46, .int l1, .int l2, .int (-1), .int 0, .int 0, .retAddr 0, .retAddr 0, .retAddr 0]) (dk D278 26 rfl) (Nat.le_of_ble_eq_true rfl) rfl).trans ?_
      refine (r_ic (dk D278 27 rfl) ci0).trans ?_
      refine (r_is (L' := [.ref 46, .int l1, .int l2, .int (-1), .int 0, .int 0, .int 0, .retAddr 0, .retAddr 0]) (dk D278 28 rfl) (Nat.le_of_ble_eq_true rfl) rfl).trans ?_
      exact rfl
theorem E278_19 {d sl : Nat} {p : Nat → Nat} {I : Nat → Nat → Int32} {J : Nat → Nat → Int64} (l1 : Int32) (l2 : Int32)  : ev (d + 1) 278 19 [.ref 46, .int l1, .int l2, .retAddr 0, .retAddr 0, .retAddr 0, .retAddr 0, .retAddr 0, .retAddr 0] [] (S sl p I J) = evK (d + 1) 278 24 [.ref 46, .int l1, .int l2, .retAddr 0, .retAddr 0, .retAddr 0, .retAddr 0, .retAddr 0, .retAddr 0] [] (den d 178 [.ref 46, .int 1] (S sl p I J)) := by
  refine (r_aln (dk D278 10 rfl) rfl).trans ?_
  refine (r_ic (dk D278 11 rfl) ci1).trans ?_
  exact r_cv (dk D278 12 rfl) ow278 c12_183 mf178 (Nat.le_of_ble_eq_true rfl) rfl rfl (Nat.le_of_ble_eq_true rfl) (Nat.le_of_ble_eq_true rfl) ob_46
theorem E278_24 {d sl : Nat} {p : Nat → Nat} {I : Nat → Nat → Int32} {J : Nat → Nat → Int64} (l1 : Int32) (l2 : Int32) (s0 : Int32)  : ev d 278 24 [.ref 46, .int l1, .int l2, .retAddr 0, .retAddr 0, .retAddr 0, .retAddr 0, .retAddr 0, .retAddr 0] [.int s0] (S sl p I J) = some (some (.int s0), (S sl p I J)) := by
  exact r_ret (dk D278 13 rfl) rt278
theorem E278_37 {d sl : Nat} {p : Nat → Nat} {I : Nat → Nat → Int32} {J : Nat → Nat → Int64} (l1 : Int32) (l2 : Int32) (s0 : Int32)  : ev d 278 37 [.ref 46, .int l1, .int l2, .retAddr 0, .retAddr 0, .retAddr 0, .retAddr 0, .retAddr 0, .retAddr 0] [.int s0] (S sl p I J) = some (some (.int s0), (S sl p I J)) := by
  exact r_ret (dk D278 20 rfl) rt278
theorem E278_49 {d sl : Nat} {p : Nat → Nat} {I : Nat → Nat → Int32} {J : Nat → Nat → Int64} (l1 : Int32) (l2 : Int32) (l3 : Int32) (l4 : Int32) (l5 : Int32) (l6 : Int32)  : ev d 278 49 [.ref 46, .int l1, .int l2, .int l3, .int l4, .int l5, .int l6, .retAddr 0, .retAddr 0] [] (S sl p I J) = (if l6 ≤ 90 then ev d 278 59 [.ref 46, .int l1, .int l2, .int l3, .int l4, .int l5, .int l6, .int 0, .retAddr 0] [] (S sl p I J) else (if l2 = 0 then ev d 278 131 [.ref 46, .int l1, .int l2, .int l3, .int l4, .int l5, .int l6, .retAddr 0, .retAddr 0] [.int l4, .ref 46] (S sl p I J) else (if l2 = 1 then ev d 278 131 [.ref 46, .int l1, .int l2, .int l3, .int l4, .int l5, .int l6, .retAddr 0, .retAddr 0] [.int l5, .ref 46] (S sl p I J) else ev d 278 131 [.ref 46, .int l1, .int l2, .int l3, .int l4, .int l5, .int l6, .retAddr 0, .retAddr 0] [.int l3, .ref 46] (S sl p I J)))) := by
  refine (r_il (dk D278 29 rfl) rfl).trans ?_
  refine (r_bp (dk D278 30 rfl) cb90).trans ?_
  refine (r_gt (dk D278 31 rfl) rfl).trans (ite2 ?_ ?_)
  · refine (r_ic (dk D278 32 rfl) ci0).trans ?_
    refine (r_is (L' := [.ref 46, .int l1, .int l2, .int l3, .int l4, .int l5, .int l6, .int 0, .retAddr 0]) (dk D278 33 rfl) (Nat.le_of_ble_eq_true rfl) rfl).trans ?_
    exact rfl
  · refine (r_aln (dk D278 57 rfl) rfl).trans ?_
    refine (r_iln (dk D278 58 rfl) rfl).trans ?_
    refine (r_ne0 (dk D278 59 rfl) rfl).trans (ite2 ?_ ?_)
    · refine (r_il (dk D278 60 rfl) rfl).trans ?_
      refine (r_goto (L' := [.ref 46, .int l1, .int l2, .int l3, .int l4, .int l5, .int l6, .retAddr 0, .retAddr 0]) (dk D278 61 rfl) rfl nd278_131 rfl).trans ?_
      exact rfl
    · refine (r_iln (dk D278 62 rfl) rfl).trans ?_
      refine (r_ic (dk D278 63 rfl) ci1).trans ?_
      refine (r_ne (dk D278 64 rfl) rfl).trans (ite2 ?_ ?_)
      · refine (r_il (dk D278 65 rfl) rfl).trans ?_
        refine (r_goto (L' := [.ref 46, .int l1, .int l2, .int l3, .int l4, .int l5, .int l6, .retAddr 0, .retAddr 0]) (dk D278 66 rfl) rfl nd278_131 rfl).trans ?_
        exact rfl
      · refine (r_iln (dk D278 67 rfl) rfl).trans ?_
        exact rfl
theorem E278_59 {d sl : Nat} {p : Nat → Nat} {I : Nat → Nat → Int32} {J : Nat → Nat → Int64} (l1 : Int32) (l2 : Int32) (l3 : Int32) (l4 : Int32) (l5 : Int32) (l6 : Int32) (l7 : Int32)  : ev (d + 1) 278 59 [.ref 46, .int l1, .int l2, .int l3, .int l4, .int l5, .int l6, .int l7, .retAddr 0] [] (S sl p I J) = (if l7 < 360 then evK (d + 1) 278 76 [.ref 46, .int l1, .int l2, .int l3, .int l4, .int l5, .int l6, .int l7, .retAddr 0] [] (den d 268 [.ref 46, .int l7, .int l6, .int l1] (S sl p I J)) else ev (d + 1) 278 49 [.ref 46, .int l1, .int l2, .int l3, .int l4, .int l5, .int (l6 + 10), .retAddr 0, .retAddr 0] [] (S sl p I J)) := by
  refine (r_il (dk D278 34 rfl) rfl).trans ?_
  refine (r_sp (dk D278 35 rfl) cs360).trans ?_
  refine (r_ge (dk D278 36 rfl) rfl).trans (ite2 ?_ ?_)
  · refine (r_aln (dk D278 37 rfl) rfl).trans ?_
    refine (r_il (dk D278 38 rfl) rfl).trans ?_
    refine (r_il (dk D278 39 rfl) rfl).trans ?_
    refine (r_iln (dk D278 40 rfl) rfl).trans ?_
    exact r_cv (dk D278 41 rfl) ow278 c12_390 mf268 (Nat.le_of_ble_eq_true rfl) rfl rfl (Nat.le_of_ble_eq_true rfl) (Nat.le_of_ble_eq_true rfl) ob_46
  · refine (r_inc (L' := [.ref 46, .int l1, .int l2, .int l3, .int l4, .int l5, .int (l6 + 10), .int l7, .retAddr 0]) (dk D278 55 rfl) rfl rfl ci10 (Nat.le_of_ble_eq_true rfl) rfl).trans ?_
    refine (r_goto (L' := [.ref 46, .int l1, .int l2, .int l3, .int l4, .int l5, .int (l6 + 10), .retAddr 0, .retAddr 0]) (dk D278 56 rfl) rfl nd278_49 rfl).trans ?_
    exact rfl
theorem E278_76 {d sl : Nat} {p : Nat → Nat} {I : Nat → Nat → Int32} {J : Nat → Nat → Int64} (l1 : Int32) (l2 : Int32) (l3 : Int32) (l4 : Int32) (l5 : Int32) (l6 : Int32) (l7 : Int32) (s0 : Int32)  : ev d 278 76 [.ref 46, .int l1, .int l2, .int l3, .int l4, .int l5, .int l6, .int l7, .retAddr 0] [.int s0] (S sl p I J) = (if s0 ≤ l3 then ev d 278 59 [.ref 46, .int l1, .int l2, .int l3, .int l4, .int l5, .int l6, .int (l7 + 10), .retAddr 0] [] (S sl p I J) else ev d 278 59 [.ref 46, .int l1, .int l2, .int s0, .int l7, .int l6, .int l6, .int (l7 + 10), .retAddr 0] [] (S sl p I J)) := by
  refine (r_is (L' := [.ref 46, .int l1, .int l2, .int l3, .int l4, .int l5, .int l6, .int l7, .int s0]) (dk D278 42 rfl) (Nat.le_of_ble_eq_true rfl) rfl).trans ?_
  refine (r_il (dk D278 43 rfl) rfl).trans ?_
  refine (r_iln (dk D278 44 rfl) rfl).trans ?_
  refine (r_gt (dk D278 45 rfl) rfl).trans (ite2 ?_ ?_)
  · refine (r_goto (L' := [.ref 46, .int l1, .int l2, .int l3, .int l4, .int l5, .int l6, .int l7, .int s0]) (dk D278 46 rfl) rfl nd278_98 rfl).trans ?_
    refine (r_inc (L' := [.ref 46, .int l1, .int l2, .int l3, .int l4, .int l5, .int l6, .int (l7 + 10), .int s0]) (dk D278 53 rfl) rfl rfl ci10 (Nat.le_of_ble_eq_true rfl) rfl).trans ?_
    refine (r_goto (L' := [.ref 46, .int l1, .int l2, .int l3, .int l4, .int l5, .int l6, .int (l7 + 10), .retAddr 0]) (dk D278 54 rfl) rfl nd278_59 rfl).trans ?_
    exact rfl
  · refine (r_il (dk D278 47 rfl) rfl).trans ?_
    refine (r_isn (L' := [.ref 46, .int l1, .int l2, .int s0, .int l4, .int l5, .int l6, .int l7, .int s0]) (dk D278 48 rfl) (Nat.le_of_ble_eq_true rfl) rfl).trans ?_
    refine (r_il (dk D278 49 rfl) rfl).trans ?_
    refine (r_is (L' := [.ref 46, .int l1, .int l2, .int s0, .int l7, .int l5, .int l6, .int l7, .int s0]) (dk D278 50 rfl) (Nat.le_of_ble_eq_true rfl) rfl).trans ?_
    refine (r_il (dk D278 51 rfl) rfl).trans ?_
    refine (r_is (L' := [.ref 46, .int l1, .int l2, .int s0, .int l7, .int l6, .int l6, .int l7, .int s0]) (dk D278 52 rfl) (Nat.le_of_ble_eq_true rfl) rfl).trans ?_
    refine (r_inc (L' := [.ref 46, .int l1, .int l2, .int s0, .int l7, .int l6, .int l6, .int (l7 + 10), .int s0]) (dk D278 53 rfl) rfl rfl ci10 (Nat.le_of_ble_eq_true rfl) rfl).trans ?_
    refine (r_goto (L' := [.ref 46, .int l1, .int l2, .int s0, .int l7, .int l6, .int l6, .int (l7 + 10), .retAddr 0]) (dk D278 54 rfl) rfl nd278_59 rfl).trans ?_
    exact rfl
theorem E278_131 {d sl : Nat} {p : Nat → Nat} {I : Nat → Nat → Int32} {J : Nat → Nat → Int64} (l1 : Int32) (l2 : Int32) (l3 : Int32) (l4 : Int32) (l5 : Int32) (l6 : Int32) (s0 : Int32)  : ev (d + 1) 278 131 [.ref 46, .int l1, .int l2, .int l3, .int l4, .int l5, .int l6, .retAddr 0, .retAddr 0] [.int s0, .ref 46] (S sl p I J) = evK (d + 1) 278 134 [.ref 46, .int l1, .int l2, .int l3, .int l4, .int l5, .int l6, .retAddr 0, .retAddr 0] [] (den d 179 [.ref 46, .int s0] (S sl p I J)) := by
  exact r_cv (dk D278 68 rfl) ow278 c12_193 mf179 (Nat.le_of_ble_eq_true rfl) rfl rfl (Nat.le_of_ble_eq_true rfl) (Nat.le_of_ble_eq_true rfl) ob_46
theorem E278_134 {d sl : Nat} {p : Nat → Nat} {I : Nat → Nat → Int32} {J : Nat → Nat → Int64} (l1 : Int32) (l2 : Int32) (l3 : Int32) (l4 : Int32) (l5 : Int32) (l6 : Int32) (s0 : Int32)  : ev d 278 134 [.ref 46, .int l1, .int l2, .int l3, .int l4, .int l5, .int l6, .retAddr 0, .retAddr 0] [.int s0] (S sl p I J) = some (some (.int s0), (S sl p I J)) := by
  exact r_ret (dk D278 69 rfl) rt278
set_option maxRecDepth 20000 in
theorem D279 : dOK 279 [(0, .aload_n 0, 1), (1, .getfield 80, 3), (4, .iload_n 1, 1), (5, .iaload, 1), (6, .i2l, 1), (7, .aload_n 0, 1), (8, .getfield 83, 3), (11, .iload_n 1, 1), (12, .iaload, 1), (13, .i2l, 1), (14, .aload_n 0, 1), (15, .getfield 86, 3), (18, .iload_n 1, 1), (19, .iaload, 1), (20, .i2l, 1), (21, .lload_n 2, 1), (22, .lload 4, 2), (24, .lload 6, 2), (26, .invokestatic 136, 3), (29, .lstore 8, 2), (31, .ldc2_w 140, 3), (34, .lload 8, 2), (36, .lmul, 1), (37, .lload 8, 2), (39, .lmul, 1), (40, .aload_n 0, 1), (41, .iload_n 1, 1), (42, .invokevirtual 312, 3), (45, .lload_n 2, 1), (46, .lload 4, 2), (48, .lload 6, 2), (50, .invokestatic 146, 3), (53, .lmul, 1), (54, .ldiv, 1), (55, .invokestatic 164, 3), (58, .lreturn, 1)] = true := by decide +kernel
theorem E279_0 {d sl : Nat} {p : Nat → Nat} {I : Nat → Nat → Int32} {J : Nat → Nat → Int64} (a1 : Int32) (a2 : Int64) (a3 : Int64) (a4 : Int64)  : den (d + 1) 279 [.ref 46, .int a1, .long a2, .long a3, .long a4] (S sl p I J) = ck (ixb 30 a1) (ck (ixb 30 a1) (ck (ixb 30 a1) (evK (d + 1) 279 29 [.ref 46, .int a1, .long a2, .retAddr 0, .long a3, .retAddr 0, .long a4, .retAddr 0, .retAddr 0, .retAddr 0] [] (den d 188 [.long (Int32.toInt64 (I 64 (Int32.toNatClampNeg a1))), .long (Int32.toInt64 (I 65 (Int32.toNatClampNeg a1))), .long (Int32.toInt64 (I 66 (Int32.toNatClampNeg a1))), .long a2, .long a3, .long a4] (S sl p I J))))) := by
  refine (show den (d + 1) 279 [.ref 46, .int a1, .long a2, .long a3, .long a4] (S sl p I J) = ev (d + 1) 279 0 [.ref 46, .int a1, .long a2, .retAddr 0, .long a3, .retAddr 0, .long a4, .retAddr 0, .retAddr 0, .retAddr 0] [] (S sl p I J) from rfl).trans ?_
  refine (r_aln (dk D279 0 rfl) rfl).trans ?_
  refine (r_getR (dk D279 1 rfl) ow279 q12_80 ob_46 rfl).trans ?_
  refine (r_iln (dk D279 2 rfl) rfl).trans ?_
  refine (r_ild (dk D279 3 rfl) ar_64).trans (ck3 fun g1 => ?_)
  refine (r_i2l (dk D279 4 rfl)).trans ?_
  refine (r_aln (dk D279 5 rfl) rfl).trans ?_
  refine (r_getR (dk D279 6 rfl) ow279 q12_83 ob_46 rfl).trans ?_
  refine (r_iln (dk D279 7 rfl) rfl).trans ?_
  refine (r_ild (dk D279 8 rfl) ar_65).trans (ck3 fun g2 => ?_)
  refine (r_i2l (dk D279 9 rfl)).trans ?_
  refine (r_aln (dk D279 10 rfl) rfl).trans ?_
  refine (r_getR (dk D279 11 rfl) ow279 q12_86 ob_46 rfl).trans ?_
  refine (r_iln (dk D279 12 rfl) rfl).trans ?_
  refine (r_ild (dk D279 13 rfl) ar_66).trans (ck3 fun g3 => ?_)
  refine (r_i2l (dk D279 14 rfl)).trans ?_
  refine (r_lln (dk D279 15 rfl) rfl).trans ?_
  refine (r_ll (dk D279 16 rfl) rfl).trans ?_
  refine (r_ll (dk D279 17 rfl) rfl).trans ?_
  exact r_cs (dk D279 18 rfl) ow279 pn12_136 c12_136 mf188 (Nat.le_of_ble_eq_true rfl) rfl rfl (Nat.le_of_ble_eq_true rfl) (Nat.le_of_ble_eq_true rfl)
theorem E279_29 {d sl : Nat} {p : Nat → Nat} {I : Nat → Nat → Int32} {J : Nat → Nat → Int64} (l1 : Int32) (l2 : Int64) (l4 : Int64) (l6 : Int64) (s0 : Int64)  : ev (d + 1) 279 29 [.ref 46, .int l1, .long l2, .retAddr 0, .long l4, .retAddr 0, .long l6, .retAddr 0, .retAddr 0, .retAddr 0] [.long s0] (S sl p I J) = evK (d + 1) 279 45 [.ref 46, .int l1, .long l2, .retAddr 0, .long l4, .retAddr 0, .long l6, .retAddr 0, .long s0, .retAddr 0] [.long ((1000000 * s0) * s0)] (den d 229 [.ref 46, .int l1] (S sl p I J)) := by
  refine (r_ls (L' := [.ref 46, .int l1, .long l2, .retAddr 0, .long l4, .retAddr 0, .long l6, .retAddr 0, .long s0, .retAddr 0]) (dk D279 19 rfl) (Nat.le_of_ble_eq_true rfl) rfl).trans ?_
  refine (r_ld2 (dk D279 20 rfl) ow279 kk12_140).trans ?_
  refine (r_ll (dk D279 21 rfl) rfl).trans ?_
  refine (r_lmul (dk D279 22 rfl)).trans ?_
  refine (r_ll (dk D279 23 rfl) rfl).trans ?_
  refine (r_lmul (dk D279 24 rfl)).trans ?_
  refine (r_aln (dk D279 25 rfl) rfl).trans ?_
  refine (r_iln (dk D279 26 rfl) rfl).trans ?_
  exact r_cv (dk D279 27 rfl) ow279 c12_312 mf229 (Nat.le_of_ble_eq_true rfl) rfl rfl (Nat.le_of_ble_eq_true rfl) (Nat.le_of_ble_eq_true rfl) ob_46
theorem E279_45 {d sl : Nat} {p : Nat → Nat} {I : Nat → Nat → Int32} {J : Nat → Nat → Int64} (l1 : Int32) (l2 : Int64) (l4 : Int64) (l6 : Int64) (l8 : Int64) (s0 : Int64) (s1 : Int64)  : ev (d + 1) 279 45 [.ref 46, .int l1, .long l2, .retAddr 0, .long l4, .retAddr 0, .long l6, .retAddr 0, .long l8, .retAddr 0] [.long s0, .long s1] (S sl p I J) = evK (d + 1) 279 53 [.ref 46, .int l1, .long l2, .retAddr 0, .long l4, .retAddr 0, .long l6, .retAddr 0, .long l8, .retAddr 0] [.long s0, .long s1] (den d 189 [.long l2, .long l4, .long l6] (S sl p I J)) := by
  refine (r_lln (dk D279 28 rfl) rfl).trans ?_
  refine (r_ll (dk D279 29 rfl) rfl).trans ?_
  refine (r_ll (dk D279 30 rfl) rfl).trans ?_
  exact r_cs (dk D279 31 rfl) ow279 pn12_146 c12_146 mf189 (Nat.le_of_ble_eq_true rfl) rfl rfl (Nat.le_of_ble_eq_true rfl) (Nat.le_of_ble_eq_true rfl)
theorem E279_53 {d sl : Nat} {p : Nat → Nat} {I : Nat → Nat → Int32} {J : Nat → Nat → Int64} (l1 : Int32) (l2 : Int64) (l4 : Int64) (l6 : Int64) (l8 : Int64) (s0 : Int64) (s1 : Int64) (s2 : Int64)  : ev (d + 1) 279 53 [.ref 46, .int l1, .long l2, .retAddr 0, .long l4, .retAddr 0, .long l6, .retAddr 0, .long l8, .retAddr 0] [.long s0, .long s1, .long s2] (S sl p I J) = ck (!decide ((s1 * s0) = 0)) (evK (d + 1) 279 58 [.ref 46, .int l1, .long l2, .retAddr 0, .long l4, .retAddr 0, .long l6, .retAddr 0, .long l8, .retAddr 0] [] (den d 184 [.long (s2 / (s1 * s0))] (S sl p I J))) := by
  refine (r_lmul (dk D279 32 rfl)).trans ?_
  refine (r_ldivc (dk D279 33 rfl)).trans (ck3 fun g1 => ?_)
  exact r_cs (dk D279 34 rfl) ow279 pn12_164 c12_164 mf184 (Nat.le_of_ble_eq_true rfl) rfl rfl (Nat.le_of_ble_eq_true rfl) (Nat.le_of_ble_eq_true rfl)
theorem E279_58 {d sl : Nat} {p : Nat → Nat} {I : Nat → Nat → Int32} {J : Nat → Nat → Int64} (l1 : Int32) (l2 : Int64) (l4 : Int64) (l6 : Int64) (l8 : Int64) (s0 : Int64)  : ev d 279 58 [.ref 46, .int l1, .long l2, .retAddr 0, .long l4, .retAddr 0, .long l6, .retAddr 0, .long l8, .retAddr 0] [.long s0] (S sl p I J) = some (some (.long s0), (S sl p I J)) := by
  exact r_rel (dk D279 35 rfl) rt279
set_option maxRecDepth 20000 in
theorem D280 : dOK 280 [(0, .ldc_w 407, 3), (3, .istore_n 3, 1), (4, .iconst (-1), 1), (5, .istore 4, 2), (7, .aload_n 0, 1), (8, .iconst (-1), 1), (9, .putfield 408, 3), (12, .iconst 0, 1), (13, .istore 5, 2), (15, .iload 5, 2), (17, .aload_n 0, 1), (18, .getfield 196, 3), (21, .if_icmp .ge 70, 3), (24, .aload_n 0, 1), (25, .getfield 71, 3), (28, .iload 5, 2), (30, .iaload, 1), (31, .iload_n 1, 1), (32, .if_icmp .ne 53, 3), (35, .aload_n 0, 1), (36, .getfield 38, 3), (39, .iload 5, 2), (41, .iaload, 1), (42, .iload_n 2, 1), (43, .if_icmp .eq 6, 3), (46, .goto 39, 3), (49, .aload_n 0, 1), (50, .dup, 1), (51, .getfield 408, 3), (54, .iconst 1, 1), (55, .iadd, 1), (56, .putfield 408, 3), (59, .iload_n 3, 1), (60, .aload_n 0, 1), (61, .getfield 47, 3), (64, .iload 5, 2), (66, .iaload, 1), (67, .invokestatic 236, 3), (70, .istore_n 3, 1), (71, .iload 4, 2), (73, .aload_n 0, 1), (74, .getfield 47, 3), (77, .iload 5, 2), (79, .iaload, 1), (80, .invokestatic 318, 3), (83, .istore 4, 2), (85, .iinc 5 1, 3), (88, .goto (-73), 3), (91, .aload_n 0, 1), (92, .getfield 408, 3), (95, .iconst 1, 1), (96, .if_icmp .ge 5, 3), (99, .iconst 0, 1), (100, .ireturn, 1), (101, .aload_n 0, 1), (102, .iload 4, 2), (104, .iload_n 3, 1), (105, .isub, 1), (106, .aload_n 0, 1), (107, .getfield 408, 3), (110, .idiv, 1), (111, .putfield 411, 3), (114, .aload_n 0, 1), (115, .aload_n 0, 1), (116, .getfield 411, 3), (119, .i2l, 1), (120, .aload_n 0, 1), (121, .iload_n 1, 1), (122, .aload_n 0, 1), (123, .getfield 59, 3), (126, .iload_n 2, 1), (127, .iaload, 1), (128, .i2l, 1), (129, .aload_n 0, 1), (130, .getfield 62, 3), (133, .iload_n 2, 1), (134, .iaload, 1), (135, .i2l, 1), (136, .aload_n 0, 1), (137, .getfield 65, 3), (140, .iload_n 2, 1), (141, .iaload, 1), (142, .i2l, 1), (143, .invokevirtual 414, 3), (146, .lmul, 1), (147, .ldc2_w 162, 3), (150, .ldiv, 1), (151, .l2i, 1), (152, .putfield 418, 3), (155, .iconst 1, 1), (156, .ireturn, 1)] = true := by decide +kernel
theorem E280_0 {d sl : Nat} {p : Nat → Nat} {I : Nat → Nat → Int32} {J : Nat → Nat → Int64} (a1 : Int32) (a2 : Int32)  : den d 280 [.ref 46, .int a1, .int a2] (S sl p I J) = ev d 280 15 [.ref 46, .int a1, .int a2, .int 100001, .int (-1), .int 0] [] (S sl p (up2 I 46 42 (-1)) J) := by
  refine (show den d 280 [.ref 46, .int a1, .int a2] (S sl p I J) = ev d 280 0 [.ref 46, .int a1, .int a2, .retAddr 0, .retAddr 0, .retAddr 0] [] (S sl p I J) from rfl).trans ?_
  refine (r_ldcw (dk D280 0 rfl) ow280 k12_407).trans ?_
  refine (r_isn (L' := [.ref 46, .int a1, .int a2, .int 100001, .retAddr 0, .retAddr 0]) (dk D280 1 rfl) (Nat.le_of_ble_eq_true rfl) rfl).trans ?_
  refine (r_ic (dk D280 2 rfl) cim1).trans ?_
  refine (r_is (L' := [.ref 46, .int a1, .int a2, .int 100001, .int (-1), .retAddr 0]) (dk D280 3 rfl) (Nat.le_of_ble_eq_true rfl) rfl).trans ?_
  refine (r_aln (dk D280 4 rfl) rfl).trans ?_
  refine (r_ic (dk D280 5 rfl) cim1).trans ?_
  refine (r_putI (dk D280 6 rfl) ow280 w12_408 ob_46).trans ?_
  refine (r_ic (dk D280 7 rfl) ci0).trans ?_
  refine (r_is (L' := [.ref 46, .int a1, .int a2, .int 100001, .int (-1), .int 0]) (dk D280 8 rfl) (Nat.le_of_ble_eq_true rfl) rfl).trans ?_
  exact rfl
theorem E280_15 {d sl : Nat} {p : Nat → Nat} {I : Nat → Nat → Int32} {J : Nat → Nat → Int64} (l1 : Int32) (l2 : Int32) (l3 : Int32) (l4 : Int32) (l5 : Int32)  : ev (d + 1) 280 15 [.ref 46, .int l1, .int l2, .int l3, .int l4, .int l5] [] (S sl p I J) = (if l5 < (I 46 2) then ck (ixb 60 l5) ((if (I 61 (Int32.toNatClampNeg l5)) = l1 then ck (ixb 60 l5) ((if (I 50 (Int32.toNatClampNeg l5)) = l2 then ck (ixb 60 l5) (ck (ixb 60 l5) (ev (d + 1) 280 15 [.ref 46, .int l1, .int l2, .int (if ((up2 I 46 42 ((I 46 42) + 1)) 53 (Int32.toNatClampNeg l5)) < l3 then ((up2 I 46 42 ((I 46 42) + 1)) 53 (Int32.toNatClampNeg l5)) else l3), .int (if l4 < ((up2 I 46 42 ((I 46 42) + 1)) 53 (Int32.toNatClampNeg l5)) then ((up2 I 46 42 ((I 46 42) + 1)) 53 (Int32.toNatClampNeg l5)) else l4), .int (l5 + 1)] [] (S sl p (up2 I 46 42 ((I 46 42) + 1)) J))) else ev (d + 1) 280 15 [.ref 46, .int l1, .int l2, .int l3, .int l4, .int (l5 + 1)] [] (S sl p I J))) else ev (d + 1) 280 15 [.ref 46, .int l1, .int l2, .int l3, .int l4, .int (l5 + 1)] [] (S sl p I J))) else (if (I 46 42) < 1 then some (some (.int 0), (S sl p I J)) else ck (!decide ((I 46 42) = 0)) (ck (ixb 6 l2) (ck (ixb 6 l2) (ck (ixb 6 l2) (evK (d + 1) 280 146 [.ref 46, .int l1, .int l2, .int l3, .int l4, .int l5] [.long (Int32.toInt64 ((up2 I 46 43 ((l4 - l3) / (I 46 42))) 46 43)), .ref 46] (den d 279 [.ref 46, .int l1, .long (Int32.toInt64 ((up2 I 46 43 ((l4 - l3) / (I 46 42))) 57 (Int32.toNatClampNeg l2))), .long (Int32.toInt64 ((up2 I 46 43 ((l4 - l3) / (I 46 42))) 58 (Int32.toNatClampNeg l2))), .long (Int32.toInt64 ((up2 I 46 43 ((l4 - l3) / (I 46 42))) 59 (Int32.toNatClampNeg l2)))] (S sl p (up2 I 46 43 ((l4 - l3) / (I 46 42))) J)))))))) := by
  refine (r_il (dk D280 9 rfl) rfl).trans ?_
  refine (r_aln (dk D280 10 rfl) rfl).trans ?_
  refine (r_getI (dk D280 11 rfl) ow280 q12_196 ob_46).trans ?_
  refine (r_ge (dk D280 12 rfl) rfl).trans (ite2 ?_ ?_)
  · refine (r_aln (dk D280 13 rfl) rfl).trans ?_
    refine (r_getR (dk D280 14 rfl) ow280 q12_71 ob_46 rfl).trans ?_
    refine (r_il (dk D280 15 rfl) rfl).trans ?_
    refine (r_ild (dk D280 16 rfl) ar_61).trans (ck3 fun g1 => ?_)
    refine (r_iln (dk D280 17 rfl) rfl).trans ?_
    refine (r_ne (dk D280 18 rfl) rfl).trans (ite2 ?_ ?_)
    · refine (r_aln (dk D280 19 rfl) rfl).trans ?_
      refine (r_getR (dk D280 20 rfl) ow280 q12_38 ob_46 rfl).trans ?_
      refine (r_il (dk D280 21 rfl) rfl).trans ?_
      refine (r_ild (dk D280 22 rfl) ar_50).trans (ck3 fun g2 => ?_)
      refine (r_iln (dk D280 23 rfl) rfl).trans ?_
      refine (r_eq (dk D280 24 rfl) rfl).trans (ite2 ?_ ?_)
      · refine (r_aln (dk D280 26 rfl) rfl).trans ?_
        refine (r_dup (dk D280 27 rfl) rfl).trans ?_
        refine (r_getI (dk D280 28 rfl) ow280 q12_408 ob_46).trans ?_
        refine (r_ic (dk D280 29 rfl) ci1).trans ?_
        refine (r_iadd (dk D280 30 rfl)).trans ?_
        refine (r_putI (dk D280 31 rfl) ow280 w12_408 ob_46).trans ?_
        refine (r_iln (dk D280 32 rfl) rfl).trans ?_
        refine (r_aln (dk D280 33 rfl) rfl).trans ?_
        refine (r_getR (dk D280 34 rfl) ow280 q12_47 ob_46 rfl).trans ?_
        refine (r_il (dk D280 35 rfl) rfl).trans ?_
        refine (r_ild (dk D280 36 rfl) ar_53).trans (ck3 fun g3 => ?_)
        refine (r_prm (st' := [.int (if ((up2 I 46 42 ((I 46 42) + 1)) 53 (Int32.toNatClampNeg l5)) < l3 then ((up2 I 46 42 ((I 46 42) + 1)) 53 (Int32.toNatClampNeg l5)) else l3)]) (dk D280 37 rfl) ow280 p12_236 (Nat.le_of_ble_eq_true rfl) rfl).trans ?_
        refine (r_isn (L' := [.ref 46, .int l1, .int l2, .int (if ((up2 I 46 42 ((I 46 42) + 1)) 53 (Int32.toNatClampNeg l5)) < l3 then ((up2 I 46 42 ((I 46 42) + 1)) 53 (Int32.toNatClampNeg l5)) else l3), .int l4, .int l5]) (dk D280 38 rfl) (Nat.le_of_ble_eq_true rfl) rfl).trans ?_
        refine (r_il (dk D280 39 rfl) rfl).trans ?_
        refine (r_aln (dk D280 40 rfl) rfl).trans ?_
        refine (r_getR (dk D280 41 rfl) ow280 q12_47 ob_46 rfl).trans ?_
        refine (r_il (dk D280 42 rfl) rfl).trans ?_
        refine (r_ild (dk D280 43 rfl) ar_53).trans (ck3 fun g4 => ?_)
        refine (r_prm (st' := [.int (if l4 < ((up2 I 46 42 ((I 46 42) + 1)) 53 (Int32.toNatClampNeg l5)) then ((up2 I 46 42 ((I 46 42) + 1)) 53 (Int32.toNatClampNeg l5)) else l4)]) (dk D280 44 rfl) ow280 p12_318 (Nat.le_of_ble_eq_true rfl) rfl).trans ?_
        refine (r_is (L' := [.ref 46, .int l1, .int l2, .int (if ((up2 I 46 42 ((I 46 42) + 1)) 53 (Int32.toNatClampNeg l5)) < l3 then ((up2 I 46 42 ((I 46 42) + 1)) 53 (Int32.toNatClampNeg l5)) else l3), .int (if l4 < ((up2 I 46 42 ((I 46 42) + 1)) 53 (Int32.toNatClampNeg l5)) then ((up2 I 46 42 ((I 46 42) + 1)) 53 (Int32.toNatClampNeg l5)) else l4), .int l5]) (dk D280 45 rfl) (Nat.le_of_ble_eq_true rfl) rfl).trans ?_
        refine (r_inc (L' := [.ref 46, .int l1, .int l2, .int (if ((up2 I 46 42 ((I 46 42) + 1)) 53 (Int32.toNatClampNeg l5)) < l3 then ((up2 I 46 42 ((I 46 42) + 1)) 53 (Int32.toNatClampNeg l5)) else l3), .int (if l4 < ((up2 I 46 42 ((I 46 42) + 1)) 53 (Int32.toNatClampNeg l5)) then ((up2 I 46 42 ((I 46 42) + 1)) 53 (Int32.toNatClampNeg l5)) else l4), .int (l5 + 1)]) (dk D280 46 rfl) rfl rfl ci1 (Nat.le_of_ble_eq_true rfl) rfl).trans ?_
        refine (r_goto (L' := [.ref 46, .int l1, .int l2, .int (if ((up2 I 46 42 ((I 46 42) + 1)) 53 (Int32.toNatClampNeg l5)) < l3 then ((up2 I 46 42 ((I 46 42) + 1)) 53 (Int32.toNatClampNeg l5)) else l3), .int (if l4 < ((up2 I 46 42 ((I 46 42) + 1)) 53 (Int32.toNatClampNeg l5)) then ((up2 I 46 42 ((I 46 42) + 1)) 53 (Int32.toNatClampNeg l5)) else l4), .int (l5 + 1)]) (dk D280 47 rfl) rfl nd280_15 rfl).trans ?_
        exact rfl
      · refine (r_goto (L' := [.ref 46, .int l1, .int l2, .int l3, .int l4, .int l5]) (dk D280 25 rfl) rfl nd280_85 rfl).trans ?_
        refine (r_inc (L' := [.ref 46, .int l1, .int l2, .int l3, .int l4, .int (l5 + 1)]) (dk D280 46 rfl) rfl rfl ci1 (Nat.le_of_ble_eq_true rfl) rfl).trans ?_
        refine (r_goto (L' := [.ref 46, .int l1, .int l2, .int l3, .int l4, .int (l5 + 1)]) (dk D280 47 rfl) rfl nd280_15 rfl).trans ?_
        exact rfl
    · refine (r_inc (L' := [.ref 46, .int l1, .int l2, .int l3, .int l4, .int (l5 + 1)]) (dk D280 46 rfl) rfl rfl ci1 (Nat.le_of_ble_eq_true rfl) rfl).trans ?_
      refine (r_goto (L' := [.ref 46, .int l1, .int l2, .int l3, .int l4, .int (l5 + 1)]) (dk D280 47 rfl) rfl nd280_15 rfl).trans ?_
      exact rfl
  · refine (r_aln (dk D280 48 rfl) rfl).trans ?_
    refine (r_getI (dk D280 49 rfl) ow280 q12_408 ob_46).trans ?_
    refine (r_ic (dk D280 50 rfl) ci1).trans ?_
    refine (r_ge (dk D280 51 rfl) rfl).trans (ite2 ?_ ?_)
    · refine (r_ic (dk D280 52 rfl) ci0).trans ?_
      exact r_rez (dk D280 53 rfl) rt280 (by decide)
    · refine (r_aln (dk D280 54 rfl) rfl).trans ?_
      refine (r_il (dk D280 55 rfl) rfl).trans ?_
      refine (r_iln (dk D280 56 rfl) rfl).trans ?_
      refine (r_isub (dk D280 57 rfl)).trans ?_
      refine (r_aln (dk D280 58 rfl) rfl).trans ?_
      refine (r_getI (dk D280 59 rfl) ow280 q12_408 ob_46).trans ?_
      refine (r_idivc (dk D280 60 rfl)).trans (ck3 fun g5 => ?_)
      refine (r_putI (dk D280 61 rfl) ow280 w12_411 ob_46).trans ?_
      refine (r_aln (dk D280 62 rfl) rfl).trans ?_
      refine (r_aln (dk D280 63 rfl) rfl).trans ?_
      refine (r_getI (dk D280 64 rfl) ow280 q12_411 ob_46).trans ?_
      refine (r_i2l (dk D280 65 rfl)).trans ?_
      refine (r_aln (dk D280 66 rfl) rfl).trans ?_
      refine (r_iln (dk D280 67 rfl) rfl).trans ?_
      refine (r_aln (dk D280 68 rfl) rfl).trans ?_
      refine (r_getR (dk D280 69 rfl) ow280 q12_59 ob_46 rfl).trans ?_
      refine (r_iln (dk D280 70 rfl) rfl).trans ?_
      refine (r_ild (dk D280 71 rfl) ar_57).trans (ck3 fun g6 => ?_)
      refine (r_i2l (dk D280 72 rfl)).trans ?_
      refine (r_aln (dk D280 73 rfl) rfl).trans ?_
      refine (r_getR (dk D280 74 rfl) ow280 q12_62 ob_46 rfl).trans ?_
      refine (r_iln (dk D280 75 rfl) rfl).trans ?_
      refine (r_ild (dk D280 76 rfl) ar_58).trans (ck3 fun g7 => ?_)
      refine (r_i2l (dk D280 77 rfl)).trans ?_
      refine (r_aln (dk D280 78 rfl) rfl).trans ?_
      refine (r_getR (dk D280 79 rfl) ow280 q12_65 ob_46 rfl).trans ?_
      refine (r_iln (dk D280 80 rfl) rfl).trans ?_
      refine (r_ild (dk D280 81 rfl) ar_59).trans (ck3 fun g8 => ?_)
      refine (r_i2l (dk D280 82 rfl)).trans ?_
      exact r_cv (dk D280 83 rfl) ow280 c12_414 mf279 (Nat.le_of_ble_eq_true rfl) rfl rfl (Nat.le_of_ble_eq_true rfl) (Nat.le_of_ble_eq_true rfl) ob_46
theorem E280_146 {d sl : Nat} {p : Nat → Nat} {I : Nat → Nat → Int32} {J : Nat → Nat → Int64} (l1 : Int32) (l2 : Int32) (l3 : Int32) (l4 : Int32) (l5 : Int32) (s0 : Int64) (s1 : Int64)  : ev d 280 146 [.ref 46, .int l1, .int l2, .int l3, .int l4, .int l5] [.long s0, .long s1, .ref 46] (S sl p I J) = some (some (.int 1), (S sl p (up2 I 46 44 (Int64.toInt32 ((s1 * s0) / 1000))) J)) := by
  refine (r_lmul (dk D280 84 rfl)).trans ?_
  refine (r_ld2 (dk D280 85 rfl) ow280 kk12_162).trans ?_
  refine (r_ldiv (dk D280 86 rfl) (by decide)).trans ?_
  refine (r_l2i (dk D280 87 rfl)).trans ?_
  refine (r_putI (dk D280 88 rfl) ow280 w12_418 ob_46).trans ?_
  refine (r_ic (dk D280 89 rfl) ci1).trans ?_
  exact r_rez (dk D280 90 rfl) rt280 (by decide)
set_option maxRecDepth 20000 in
theorem D281 : dOK 281 [(0, .iload_n 3, 1), (1, .iconst 0, 1), (2, .iconst 2, 1), (3, .invokestatic 178, 3), (6, .ifCond .ne 9, 3), (9, .aload_n 0, 1), (10, .iconst 1, 1), (11, .invokevirtual 183, 3), (14, .ireturn, 1), (15, .aload_n 0, 1), (16, .invokevirtual 339, 3), (19, .aload_n 0, 1), (20, .iload_n 1, 1), (21, .invokevirtual 324, 3), (24, .ifCond .eq 11, 3), (27, .aload_n 0, 1), (28, .iload_n 2, 1), (29, .invokevirtual 203, 3), (32, .ifCond .ne 9, 3), (35, .aload_n 0, 1), (36, .iconst 2, 1), (37, .invokevirtual 183, 3), (40, .ireturn, 1), (41, .aload_n 0, 1), (42, .iload_n 1, 1), (43, .iload_n 2, 1), (44, .invokevirtual 421, 3), (47, .ifCond .ne 9, 3), (50, .aload_n 0, 1), (51, .iconst 5, 1), (52, .invokevirtual 183, 3), (55, .ireturn, 1), (56, .aload_n 0, 1), (57, .iload_n 3, 1), (58, .ifCond .ne 10, 3), (61, .aload_n 0, 1), (62, .getfield 408, 3), (65, .goto 19, 3), (68, .iload_n 3, 1), (69, .iconst 1, 1), (70, .if_icmp .ne 10, 3), (73, .aload_n 0, 1), (74, .getfield 411, 3), (77, .goto 7, 3), (80, .aload_n 0, 1), (81, .getfield 418, 3), (84, .invokevirtual 193, 3), (87, .ireturn, 1)] = true := by decide +kernel
theorem E281_0 {d sl : Nat} {p : Nat → Nat} {I : Nat → Nat → Int32} {J : Nat → Nat → Int64} (a1 : Int32) (a2 : Int32) (a3 : Int32)  : den (d + 1) 281 [.ref 46, .int a1, .int a2, .int a3] (S sl p I J) = evK (d + 1) 281 6 [.ref 46, .int a1, .int a2, .int a3] [] (den d 181 [.int a3, .int 0, .int 2] (S sl p I J)) := by
  refine (show den (d + 1) 281 [.ref 46, .int a1, .int a2, .int a3] (S sl p I J) = ev (d + 1) 281 0 [.ref 46, .int a1, .int a2, .int a3] [] (S sl p I J) from rfl).trans ?_
  refine (r_iln (dk D281 0 rfl) rfl).trans ?_
  refine (r_ic (dk D281 1 rfl) ci0).trans ?_
  refine (r_ic (dk D281 2 rfl) ci2).trans ?_
  exact r_cs (dk D281 3 rfl) ow281 pn12_178 c12_178 mf181 (Nat.le_of_ble_eq_true rfl) rfl rfl (Nat.le_of_ble_eq_true rfl) (Nat.le_of_ble_eq_true rfl)
theorem E281_6 {d sl : Nat} {p : Nat → Nat} {I : Nat → Nat → Int32} {J : Nat → Nat → Int64} (l1 : Int32) (l2 : Int32) (l3 : Int32) (s0 : Int32)  : ev (d + 1) 281 6 [.ref 46, .int l1, .int l2, .int l3] [.int s0] (S sl p I J) = (if s0 = 0 then evK (d + 1) 281 14 [.ref 46, .int l1, .int l2, .int l3] [] (den d 178 [.ref 46, .int 1] (S sl p I J)) else evK (d + 1) 281 19 [.ref 46, .int l1, .int l2, .int l3] [] (den d 221 [.ref 46] (S sl p I J))) := by
  refine (r_ne0 (dk D281 4 rfl) rfl).trans (ite2 ?_ ?_)
  · refine (r_aln (dk D281 5 rfl) rfl).trans ?_
    refine (r_ic (dk D281 6 rfl) ci1).trans ?_
    exact r_cv (dk D281 7 rfl) ow281 c12_183 mf178 (Nat.le_of_ble_eq_true rfl) rfl rfl (Nat.le_of_ble_eq_true rfl) (Nat.le_of_ble_eq_true rfl) ob_46
  · refine (r_aln (dk D281 9 rfl) rfl).trans ?_
    exact r_cv (dk D281 10 rfl) ow281 c12_339 mf221 (Nat.le_of_ble_eq_true rfl) rfl rfl (Nat.le_of_ble_eq_true rfl) (Nat.le_of_ble_eq_true rfl) ob_46
theorem E281_14 {d sl : Nat} {p : Nat → Nat} {I : Nat → Nat → Int32} {J : Nat → Nat → Int64} (l1 : Int32) (l2 : Int32) (l3 : Int32) (s0 : Int32)  : ev d 281 14 [.ref 46, .int l1, .int l2, .int l3] [.int s0] (S sl p I J) = some (some (.int s0), (S sl p I J)) := by
  exact r_ret (dk D281 8 rfl) rt281
theorem E281_19 {d sl : Nat} {p : Nat → Nat} {I : Nat → Nat → Int32} {J : Nat → Nat → Int64} (l1 : Int32) (l2 : Int32) (l3 : Int32)  : ev (d + 1) 281 19 [.ref 46, .int l1, .int l2, .int l3] [] (S sl p I J) = evK (d + 1) 281 24 [.ref 46, .int l1, .int l2, .int l3] [] (den d 235 [.ref 46, .int l1] (S sl p I J)) := by
  refine (r_aln (dk D281 11 rfl) rfl).trans ?_
  refine (r_iln (dk D281 12 rfl) rfl).trans ?_
  exact r_cv (dk D281 13 rfl) ow281 c12_324 mf235 (Nat.le_of_ble_eq_true rfl) rfl rfl (Nat.le_of_ble_eq_true rfl) (Nat.le_of_ble_eq_true rfl) ob_46
theorem E281_24 {d sl : Nat} {p : Nat → Nat} {I : Nat → Nat → Int32} {J : Nat → Nat → Int64} (l1 : Int32) (l2 : Int32) (l3 : Int32) (s0 : Int32)  : ev (d + 1) 281 24 [.ref 46, .int l1, .int l2, .int l3] [.int s0] (S sl p I J) = (if s0 = 0 then ev (d + 1) 281 35 [.ref 46, .int l1, .int l2, .int l3] [] (S sl p I J) else evK (d + 1) 281 32 [.ref 46, .int l1, .int l2, .int l3] [] (den d 200 [.ref 46, .int l2] (S sl p I J))) := by
  refine (r_eq0 (dk D281 14 rfl) rfl).trans (ite2 ?_ ?_)
  · exact rfl
  · refine (r_aln (dk D281 15 rfl) rfl).trans ?_
    refine (r_iln (dk D281 16 rfl) rfl).trans ?_
    exact r_cv (dk D281 17 rfl) ow281 c12_203 mf200 (Nat.le_of_ble_eq_true rfl) rfl rfl (Nat.le_of_ble_eq_true rfl) (Nat.le_of_ble_eq_true rfl) ob_46
theorem E281_32 {d sl : Nat} {p : Nat → Nat} {I : Nat → Nat → Int32} {J : Nat → Nat → Int64} (l1 : Int32) (l2 : Int32) (l3 : Int32) (s0 : Int32)  : ev (d + 1) 281 32 [.ref 46, .int l1, .int l2, .int l3] [.int s0] (S sl p I J) = (if s0 = 0 then ev (d + 1) 281 35 [.ref 46, .int l1, .int l2, .int l3] [] (S sl p I J) else evK (d + 1) 281 47 [.ref 46, .int l1, .int l2, .int l3] [] (den d 280 [.ref 46, .int l1, .int l2] (S sl p I J))) := by
  refine (r_ne0 (dk D281 18 rfl) rfl).trans (ite2 ?_ ?_)
  · exact rfl
  · refine (r_aln (dk D281 23 rfl) rfl).trans ?_
    refine (r_iln (dk D281 24 rfl) rfl).trans ?_
    refine (r_iln (dk D281 25 rfl) rfl).trans ?_
    exact r_cv (dk D281 26 rfl) ow281 c12_421 mf280 (Nat.le_of_ble_eq_true rfl) rfl rfl (Nat.le_of_ble_eq_true rfl) (Nat.le_of_ble_eq_true rfl) ob_46
theorem E281_35 {d sl : Nat} {p : Nat → Nat} {I : Nat → Nat → Int32} {J : Nat → Nat → Int64} (l1 : Int32) (l2 : Int32) (l3 : Int32)  : ev (d + 1) 281 35 [.ref 46, .int l1, .int l2, .int l3] [] (S sl p I J) = evK (d + 1) 281 40 [.ref 46, .int l1, .int l2, .int l3] [] (den d 178 [.ref 46, .int 2] (S sl p I J)) := by
  refine (r_aln (dk D281 19 rfl) rfl).trans ?_
  refine (r_ic (dk D281 20 rfl) ci2).trans ?_
  exact r_cv (dk D281 21 rfl) ow281 c12_183 mf178 (Nat.le_of_ble_eq_true rfl) rfl rfl (Nat.le_of_ble_eq_true rfl) (Nat.le_of_ble_eq_true rfl) ob_46
theorem E281_40 {d sl : Nat} {p : Nat → Nat} {I : Nat → Nat → Int32} {J : Nat → Nat → Int64} (l1 : Int32) (l2 : Int32) (l3 : Int32) (s0 : Int32)  : ev d 281 40 [.ref 46, .int l1, .int l2, .int l3] [.int s0] (S sl p I J) = some (some (.int s0), (S sl p I J)) := by
  exact r_ret (dk D281 22 rfl) rt281
theorem E281_47 {d sl : Nat} {p : Nat → Nat} {I : Nat → Nat → Int32} {J : Nat → Nat → Int64} (l1 : Int32) (l2 : Int32) (l3 : Int32) (s0 : Int32)  : ev (d + 1) 281 47 [.ref 46, .int l1, .int l2, .int l3] [.int s0] (S sl p I J) = (if s0 = 0 then evK (d + 1) 281 55 [.ref 46, .int l1, .int l2, .int l3] [] (den d 178 [.ref 46, .int 5] (S sl p I J)) else (if l3 = 0 then ev (d + 1) 281 84 [.ref 46, .int l1, .int l2, .int l3] [.int (I 46 42), .ref 46] (S sl p I J) else (if l3 = 1 then ev (d + 1) 281 84 [.ref 46, .int l1, .int l2, .int l3] [.int (I 46 43), .ref 46] (S sl p I J) else ev (d + 1) 281 84 [.ref 46, .int l1, .int l2, .int l3] [.int (I 46 44), .ref 46] (S sl p I J)))) := by
  refine (r_ne0 (dk D281 27 rfl) rfl).trans (ite2 ?_ ?_)
  · refine (r_aln (dk D281 28 rfl) rfl).trans ?_
    refine (r_ic (dk D281 29 rfl) ci5).trans ?_
    exact r_cv (dk D281 30 rfl) ow281 c12_183 mf178 (Nat.le_of_ble_eq_true rfl) rfl rfl (Nat.le_of_ble_eq_true rfl) (Nat.le_of_ble_eq_true rfl) ob_46
  · refine (r_aln (dk D281 32 rfl) rfl).trans ?_
    refine (r_iln (dk D281 33 rfl) rfl).trans ?_
    refine (r_ne0 (dk D281 34 rfl) rfl).trans (ite2 ?_ ?_)
    · refine (r_aln (dk D281 35 rfl) rfl).trans ?_
      refine (r_getI (dk D281 36 rfl) ow281 q12_408 ob_46).trans ?_
      refine (r_goto (L' := [.ref 46, .int l1, .int l2, .int l3]) (dk D281 37 rfl) rfl nd281_84 rfl).trans ?_
      exact rfl
    · refine (r_iln (dk D281 38 rfl) rfl).trans ?_
      refine (r_ic (dk D281 39 rfl) ci1).trans ?_
      refine (r_ne (dk D281 40 rfl) rfl).trans (ite2 ?_ ?_)
      · refine (r_aln (dk D281 41 rfl) rfl).trans ?_
        refine (r_getI (dk D281 42 rfl) ow281 q12_411 ob_46).trans ?_
        refine (r_goto (L' := [.ref 46, .int l1, .int l2, .int l3]) (dk D281 43 rfl) rfl nd281_84 rfl).trans ?_
        exact rfl
      · refine (r_aln (dk D281 44 rfl) rfl).trans ?_
        refine (r_getI (dk D281 45 rfl) ow281 q12_418 ob_46).trans ?_
        exact rfl
theorem E281_55 {d sl : Nat} {p : Nat → Nat} {I : Nat → Nat → Int32} {J : Nat → Nat → Int64} (l1 : Int32) (l2 : Int32) (l3 : Int32) (s0 : Int32)  : ev d 281 55 [.ref 46, .int l1, .int l2, .int l3] [.int s0] (S sl p I J) = some (some (.int s0), (S sl p I J)) := by
  exact r_ret (dk D281 31 rfl) rt281
theorem E281_84 {d sl : Nat} {p : Nat → Nat} {I : Nat → Nat → Int32} {J : Nat → Nat → Int64} (l1 : Int32) (l2 : Int32) (l3 : Int32) (s0 : Int32)  : ev (d + 1) 281 84 [.ref 46, .int l1, .int l2, .int l3] [.int s0, .ref 46] (S sl p I J) = evK (d + 1) 281 87 [.ref 46, .int l1, .int l2, .int l3] [] (den d 179 [.ref 46, .int s0] (S sl p I J)) := by
  exact r_cv (dk D281 46 rfl) ow281 c12_193 mf179 (Nat.le_of_ble_eq_true rfl) rfl rfl (Nat.le_of_ble_eq_true rfl) (Nat.le_of_ble_eq_true rfl) ob_46
theorem E281_87 {d sl : Nat} {p : Nat → Nat} {I : Nat → Nat → Int32} {J : Nat → Nat → Int64} (l1 : Int32) (l2 : Int32) (l3 : Int32) (s0 : Int32)  : ev d 281 87 [.ref 46, .int l1, .int l2, .int l3] [.int s0] (S sl p I J) = some (some (.int s0), (S sl p I J)) := by
  exact r_ret (dk D281 47 rfl) rt281
set_option maxRecDepth 20000 in
theorem D282 : dOK 282 [(0, .iload_n 3, 1), (1, .iconst 0, 1), (2, .sipush 359, 3), (5, .invokestatic 178, 3), (8, .ifCond .eq 25, 3), (11, .iload 4, 2), (13, .iconst 0, 1), (14, .bipush 90, 2), (16, .invokestatic 178, 3), (19, .ifCond .eq 14, 3), (22, .iload 5, 2), (24, .iconst 1, 1), (25, .ldc 182, 2), (27, .invokestatic 178, 3), (30, .ifCond .ne 9, 3), (33, .aload_n 0, 1), (34, .iconst 1, 1), (35, .invokevirtual 183, 3), (38, .ireturn, 1), (39, .aload_n 0, 1), (40, .invokevirtual 339, 3), (43, .aload_n 0, 1), (44, .iload_n 1, 1), (45, .invokevirtual 324, 3), (48, .ifCond .eq 11, 3), (51, .aload_n 0, 1), (52, .iload_n 2, 1), (53, .invokevirtual 203, 3), (56, .ifCond .ne 9, 3), (59, .aload_n 0, 1), (60, .iconst 2, 1), (61, .invokevirtual 183, 3), (64, .ireturn, 1), (65, .aload_n 0, 1), (66, .iload_n 1, 1), (67, .iload_n 2, 1), (68, .invokevirtual 421, 3), (71, .ifCond .eq 10, 3), (74, .aload_n 0, 1), (75, .getfield 418, 3), (78, .ifCond .ne 9, 3), (81, .aload_n 0, 1), (82, .iconst 5, 1), (83, .invokevirtual 183, 3), (86, .ireturn, 1), (87, .aload_n 0, 1), (88, .iload_n 3, 1), (89, .iload 4, 2), (91, .invokevirtual 189, 3), (94, .aload_n 0, 1), (95, .iload 5, 2), (97, .i2l, 1), (98, .aload_n 0, 1), (99, .iload_n 1, 1), (100, .aload_n 0, 1), (101, .getfield 127, 3), (104, .i2l, 1), (105, .aload_n 0, 1), (106, .getfield 130, 3), (109, .i2l, 1), (110, .aload_n 0, 1), (111, .getfield 133, 3), (114, .i2l, 1), (115, .invokevirtual 414, 3), (118, .lmul, 1), (119, .ldc2_w 162, 3), (122, .ldiv, 1), (123, .aload_n 0, 1), (124, .getfield 418, 3), (127, .i2l, 1), (128, .ldiv, 1), (129, .l2i, 1), (130, .invokevirtual 193, 3), (133, .ireturn, 1)] = true := by decide +kernel
theorem E282_0 {d sl : Nat} {p : Nat → Nat} {I : Nat → Nat → Int32} {J : Nat → Nat → Int64} (a1 : Int32) (a2 : Int32) (a3 : Int32) (a4 : Int32) (a5 : Int32)  : den (d + 1) 282 [.ref 46, .int a1, .int a2, .int a3, .int a4, .int a5] (S sl p I J) = evK (d + 1) 282 8 [.ref 46, .int a1, .int a2, .int a3, .int a4, .int a5] [] (den d 181 [.int a3, .int 0, .int 359] (S sl p I J)) := by
  refine (show den (d + 1) 282 [.ref 46, .int a1, .int a2, .int a3, .int a4, .int a5] (S sl p I J) = ev (d + 1) 282 0 [.ref 46, .int a1, .int a2, .int a3, .int a4, .int a5] [] (S sl p I J) from rfl).trans ?_
  refine (r_iln (dk D282 0 rfl) rfl).trans ?_
  refine (r_ic (dk D282 1 rfl) ci0).trans ?_
  refine (r_sp (dk D282 2 rfl) cs359).trans ?_
  exact r_cs (dk D282 3 rfl) ow282 pn12_178 c12_178 mf181 (Nat.le_of_ble_eq_true rfl) rfl rfl (Nat.le_of_ble_eq_true rfl) (Nat.le_of_ble_eq_true rfl)
theorem E282_8 {d sl : Nat} {p : Nat → Nat} {I : Nat → Nat → Int32} {J : Nat → Nat → Int64} (l1 : Int32) (l2 : Int32) (l3 : Int32) (l4 : Int32) (l5 : Int32) (s0 : Int32)  : ev (d + 1) 282 8 [.ref 46, .int l1, .int l2, .int l3, .int l4, .int l5] [.int s0] (S sl p I J) = (if s0 = 0 then ev (d + 1) 282 33 [.ref 46, .int l1, .int l2, .int l3, .int l4, .int l5] [] (S sl p I J) else evK (d + 1) 282 19 [.ref 46, .int l1, .int l2, .int l3, .int l4, .int l5] [] (den d 181 [.int l4, .int 0, .int 90] (S sl p I J))) := by
  refine (r_eq0 (dk D282 4 rfl) rfl).trans (ite2 ?_ ?_)
  · exact rfl
  · refine (r_il (dk D282 5 rfl) rfl).trans ?_
    refine (r_ic (dk D282 6 rfl) ci0).trans ?_
    refine (r_bp (dk D282 7 rfl) cb90).trans ?_
    exact r_cs (dk D282 8 rfl) ow282 pn12_178 c12_178 mf181 (Nat.le_of_ble_eq_true rfl) rfl rfl (Nat.le_of_ble_eq_true rfl) (Nat.le_of_ble_eq_true rfl)
theorem E282_19 {d sl : Nat} {p : Nat → Nat} {I : Nat → Nat → Int32} {J : Nat → Nat → Int64} (l1 : Int32) (l2 : Int32) (l3 : Int32) (l4 : Int32) (l5 : Int32) (s0 : Int32)  : ev (d + 1) 282 19 [.ref 46, .int l1, .int l2, .int l3, .int l4, .int l5] [.int s0] (S sl p I J) = (if s0 = 0 then ev (d + 1) 282 33 [.ref 46, .int l1, .int l2, .int l3, .int l4, .int l5] [] (S sl p I J) else evK (d + 1) 282 30 [.ref 46, .int l1, .int l2, .int l3, .int l4, .int l5] [] (den d 181 [.int l5, .int 1, .int 100000] (S sl p I J))) := by
  refine (r_eq0 (dk D282 9 rfl) rfl).trans (ite2 ?_ ?_)
  · exact rfl
  · refine (r_il (dk D282 10 rfl) rfl).trans ?_
    refine (r_ic (dk D282 11 rfl) ci1).trans ?_
    refine (r_ldc (dk D282 12 rfl) ow282 k12_182).trans ?_
    exact r_cs (dk D282 13 rfl) ow282 pn12_178 c12_178 mf181 (Nat.le_of_ble_eq_true rfl) rfl rfl (Nat.le_of_ble_eq_true rfl) (Nat.le_of_ble_eq_true rfl)
theorem E282_30 {d sl : Nat} {p : Nat → Nat} {I : Nat → Nat → Int32} {J : Nat → Nat → Int64} (l1 : Int32) (l2 : Int32) (l3 : Int32) (l4 : Int32) (l5 : Int32) (s0 : Int32)  : ev (d + 1) 282 30 [.ref 46, .int l1, .int l2, .int l3, .int l4, .int l5] [.int s0] (S sl p I J) = (if s0 = 0 then ev (d + 1) 282 33 [.ref 46, .int l1, .int l2, .int l3, .int l4, .int l5] [] (S sl p I J) else evK (d + 1) 282 43 [.ref 46, .int l1, .int l2, .int l3, .int l4, .int l5] [] (den d 221 [.ref 46] (S sl p I J))) := by
  refine (r_ne0 (dk D282 14 rfl) rfl).trans (ite2 ?_ ?_)
  · exact rfl
  · refine (r_aln (dk D282 19 rfl) rfl).trans ?_
    exact r_cv (dk D282 20 rfl) ow282 c12_339 mf221 (Nat.le_of_ble_eq_true rfl) rfl rfl (Nat.le_of_ble_eq_true rfl) (Nat.le_of_ble_eq_true rfl) ob_46
theorem E282_33 {d sl : Nat} {p : Nat → Nat} {I : Nat → Nat → Int32} {J : Nat → Nat → Int64} (l1 : Int32) (l2 : Int32) (l3 : Int32) (l4 : Int32) (l5 : Int32)  : ev (d + 1) 282 33 [.ref 46, .int l1, .int l2, .int l3, .int l4, .int l5] [] (S sl p I J) = evK (d + 1) 282 38 [.ref 46, .int l1, .int l2, .int l3, .int l4, .int l5] [] (den d 178 [.ref 46, .int 1] (S sl p I J)) := by
  refine (r_aln (dk D282 15 rfl) rfl).trans ?_
  refine (r_ic (dk D282 16 rfl) ci1).trans ?_
  exact r_cv (dk D282 17 rfl) ow282 c12_183 mf178 (Nat.le_of_ble_eq_true rfl) rfl rfl (Nat.le_of_ble_eq_true rfl) (Nat.le_of_ble_eq_true rfl) ob_46
theorem E282_38 {d sl : Nat} {p : Nat → Nat} {I : Nat → Nat → Int32} {J : Nat → Nat → Int64} (l1 : Int32) (l2 : Int32) (l3 : Int32) (l4 : Int32) (l5 : Int32) (s0 : Int32)  : ev d 282 38 [.ref 46, .int l1, .int l2, .int l3, .int l4, .int l5] [.int s0] (S sl p I J) = some (some (.int s0), (S sl p I J)) := by
  exact r_ret (dk D282 18 rfl) rt282
theorem E282_43 {d sl : Nat} {p : Nat → Nat} {I : Nat → Nat → Int32} {J : Nat → Nat → Int64} (l1 : Int32) (l2 : Int32) (l3 : Int32) (l4 : Int32) (l5 : Int32)  : ev (d + 1) 282 43 [.ref 46, .int l1, .int l2, .int l3, .int l4, .int l5] [] (S sl p I J) = evK (d + 1) 282 48 [.ref 46, .int l1, .int l2, .int l3, .int l4, .int l5] [] (den d 235 [.ref 46, .int l1] (S sl p I J)) := by
  refine (r_aln (dk D282 21 rfl) rfl).trans ?_
  refine (r_iln (dk D282 22 rfl) rfl).trans ?_
  exact r_cv (dk D282 23 rfl) ow282 c12_324 mf235 (Nat.le_of_ble_eq_true rfl) rfl rfl (Nat.le_of_ble_eq_true rfl) (Nat.le_of_ble_eq_true rfl) ob_46
theorem E282_48 {d sl : Nat} {p : Nat → Nat} {I : Nat → Nat → Int32} {J : Nat → Nat → Int64} (l1 : Int32) (l2 : Int32) (l3 : Int32) (l4 : Int32) (l5 : Int32) (s0 : Int32)  : ev (d + 1) 282 48 [.ref 46, .int l1, .int l2, .int l3, .int l4, .int l5] [.int s0] (S sl p I J) = (if s0 = 0 then ev (d + 1) 282 59 [.ref 46, .int l1, .int l2, .int l3, .int l4, .int l5] [] (S sl p I J) else evK (d + 1) 282 56 [.ref 46, .int l1, .int l2, .int l3, .int l4, .int l5] [] (den d 200 [.ref 46, .int l2] (S sl p I J))) := by
  refine (r_eq0 (dk D282 24 rfl) rfl).trans (ite2 ?_ ?_)
  · exact rfl
  · refine (r_aln (dk D282 25 rfl) rfl).trans ?_
    refine (r_iln (dk D282 26 rfl) rfl).trans ?_
    exact r_cv (dk D282 27 rfl) ow282 c12_203 mf200 (Nat.le_of_ble_eq_true rfl) rfl rfl (Nat.le_of_ble_eq_true rfl) (Nat.le_of_ble_eq_true rfl) ob_46
theorem E282_56 {d sl : Nat} {p : Nat → Nat} {I : Nat → Nat → Int32} {J : Nat → Nat → Int64} (l1 : Int32) (l2 : Int32) (l3 : Int32) (l4 : Int32) (l5 : Int32) (s0 : Int32)  : ev (d + 1) 282 56 [.ref 46, .int l1, .int l2, .int l3, .int l4, .int l5] [.int s0] (S sl p I J) = (if s0 = 0 then ev (d + 1) 282 59 [.ref 46, .int l1, .int l2, .int l3, .int l4, .int l5] [] (S sl p I J) else evK (d + 1) 282 71 [.ref 46, .int l1, .int l2, .int l3, .int l4, .int l5] [] (den d 280 [.ref 46, .int l1, .int l2] (S sl p I J))) := by
  refine (r_ne0 (dk D282 28 rfl) rfl).trans (ite2 ?_ ?_)
  · exact rfl
  · refine (r_aln (dk D282 33 rfl) rfl).trans ?_
    refine (r_iln (dk D282 34 rfl) rfl).trans ?_
    refine (r_iln (dk D282 35 rfl) rfl).trans ?_
    exact r_cv (dk D282 36 rfl) ow282 c12_421 mf280 (Nat.le_of_ble_eq_true rfl) rfl rfl (Nat.le_of_ble_eq_true rfl) (Nat.le_of_ble_eq_true rfl) ob_46
theorem E282_59 {d sl : Nat} {p : Nat → Nat} {I : Nat → Nat → Int32} {J : Nat → Nat → Int64} (l1 : Int32) (l2 : Int32) (l3 : Int32) (l4 : Int32) (l5 : Int32)  : ev (d + 1) 282 59 [.ref 46, .int l1, .int l2, .int l3, .int l4, .int l5] [] (S sl p I J) = evK (d + 1) 282 64 [.ref 46, .int l1, .int l2, .int l3, .int l4, .int l5] [] (den d 178 [.ref 46, .int 2] (S sl p I J)) := by
  refine (r_aln (dk D282 29 rfl) rfl).trans ?_
  refine (r_ic (dk D282 30 rfl) ci2).trans ?_
  exact r_cv (dk D282 31 rfl) ow282 c12_183 mf178 (Nat.le_of_ble_eq_true rfl) rfl rfl (Nat.le_of_ble_eq_true rfl) (Nat.le_of_ble_eq_true rfl) ob_46
theorem E282_64 {d sl : Nat} {p : Nat → Nat} {I : Nat → Nat → Int32} {J : Nat → Nat → Int64} (l1 : Int32) (l2 : Int32) (l3 : Int32) (l4 : Int32) (l5 : Int32) (s0 : Int32)  : ev d 282 64 [.ref 46, .int l1, .int l2, .int l3, .int l4, .int l5] [.int s0] (S sl p I J) = some (some (.int s0), (S sl p I J)) := by
  exact r_ret (dk D282 32 rfl) rt282
theorem E282_71 {d sl : Nat} {p : Nat → Nat} {I : Nat → Nat → Int32} {J : Nat → Nat → Int64} (l1 : Int32) (l2 : Int32) (l3 : Int32) (l4 : Int32) (l5 : Int32) (s0 : Int32)  : ev (d + 1) 282 71 [.ref 46, .int l1, .int l2, .int l3, .int l4, .int l5] [.int s0] (S sl p I J) = (if s0 = 0 then ev (d + 1) 282 81 [.ref 46, .int l1, .int l2, .int l3, .int l4, .int l5] [] (S sl p I J) else (if (I 46 44) = 0 then ev (d + 1) 282 81 [.ref 46, .int l1, .int l2, .int l3, .int l4, .int l5] [] (S sl p I J) else evK (d + 1) 282 94 [.ref 46, .int l1, .int l2, .int l3, .int l4, .int l5] [] (den d 187 [.ref 46, .int l3, .int l4] (S sl p I J)))) := by
  refine (r_eq0 (dk D282 37 rfl) rfl).trans (ite2 ?_ ?_)
  · exact rfl
  · refine (r_aln (dk D282 38 rfl) rfl).trans ?_
    refine (r_getI (dk D282 39 rfl) ow282 q12_418 ob_46).trans ?_
    refine (r_ne0 (dk D282 40 rfl) rfl).trans (ite2 ?_ ?_)
    · exact rfl
    · refine (r_aln (dk D282 45 rfl) rfl).trans ?_
      refine (r_iln (dk D282 46 rfl) rfl).trans ?_
      refine (r_il (dk D282 47 rfl) rfl).trans ?_
      exact r_cv (dk D282 48 rfl) ow282 c12_189 mf187 (Nat.le_of_ble_eq_true rfl) rfl rfl (Nat.le_of_ble_eq_true rfl) (Nat.le_of_ble_eq_true rfl) ob_46
theorem E282_81 {d sl : Nat} {p : Nat → Nat} {I : Nat → Nat → Int32} {J : Nat → Nat → Int64} (l1 : Int32) (l2 : Int32) (l3 : Int32) (l4 : Int32) (l5 : Int32)  : ev (d + 1) 282 81 [.ref 46, .int l1, .int l2, .int l3, .int l4, .int l5] [] (S sl p I J) = evK (d + 1) 282 86 [.ref 46, .int l1, .int l2, .int l3, .int l4, .int l5] [] (den d 178 [.ref 46, .int 5] (S sl p I J)) := by
  refine (r_aln (dk D282 41 rfl) rfl).trans ?_
  refine (r_ic (dk D282 42 rfl) ci5).trans ?_
  exact r_cv (dk D282 43 rfl) ow282 c12_183 mf178 (Nat.le_of_ble_eq_true rfl) rfl rfl (Nat.le_of_ble_eq_true rfl) (Nat.le_of_ble_eq_true rfl) ob_46
theorem E282_86 {d sl : Nat} {p : Nat → Nat} {I : Nat → Nat → Int32} {J : Nat → Nat → Int64} (l1 : Int32) (l2 : Int32) (l3 : Int32) (l4 : Int32) (l5 : Int32) (s0 : Int32)  : ev d 282 86 [.ref 46, .int l1, .int l2, .int l3, .int l4, .int l5] [.int s0] (S sl p I J) = some (some (.int s0), (S sl p I J)) := by
  exact r_ret (dk D282 44 rfl) rt282
theorem E282_94 {d sl : Nat} {p : Nat → Nat} {I : Nat → Nat → Int32} {J : Nat → Nat → Int64} (l1 : Int32) (l2 : Int32) (l3 : Int32) (l4 : Int32) (l5 : Int32)  : ev (d + 1) 282 94 [.ref 46, .int l1, .int l2, .int l3, .int l4, .int l5] [] (S sl p I J) = evK (d + 1) 282 118 [.ref 46, .int l1, .int l2, .int l3, .int l4, .int l5] [.long (Int32.toInt64 l5), .ref 46] (den d 279 [.ref 46, .int l1, .long (Int32.toInt64 (I 46 23)), .long (Int32.toInt64 (I 46 24)), .long (Int32.toInt64 (I 46 25))] (S sl p I J)) := by
  refine (r_aln (dk D282 49 rfl) rfl).trans ?_
  refine (r_il (dk D282 50 rfl) rfl).trans ?_
  refine (r_i2l (dk D282 51 rfl)).trans ?_
  refine (r_aln (dk D282 52 rfl) rfl).trans ?_
  refine (r_iln (dk D282 53 rfl) rfl).trans ?_
  refine (r_aln (dk D282 54 rfl) rfl).trans ?_
  refine (r_getI (dk D282 55 rfl) ow282 q12_127 ob_46).trans ?_
  refine (r_i2l (dk D282 56 rfl)).trans ?_
  refine (r_aln (dk D282 57 rfl) rfl).trans ?_
  refine (r_getI (dk D282 58 rfl) ow282 q12_130 ob_46).trans ?_
  refine (r_i2l (dk D282 59 rfl)).trans ?_
  refine (r_aln (dk D282 60 rfl) rfl).trans ?_
  refine (r_getI (dk D282 61 rfl) ow282 q12_133 ob_46).trans ?_
  refine (r_i2l (dk D282 62 rfl)).trans ?_
  exact r_cv (dk D282 63 rfl) ow282 c12_414 mf279 (Nat.le_of_ble_eq_true rfl) rfl rfl (Nat.le_of_ble_eq_true rfl) (Nat.le_of_ble_eq_true rfl) ob_46
theorem E282_118 {d sl : Nat} {p : Nat → Nat} {I : Nat → Nat → Int32} {J : Nat → Nat → Int64} (l1 : Int32) (l2 : Int32) (l3 : Int32) (l4 : Int32) (l5 : Int32) (s0 : Int64) (s1 : Int64)  : ev (d + 1) 282 118 [.ref 46, .int l1, .int l2, .int l3, .int l4, .int l5] [.long s0, .long s1, .ref 46] (S sl p I J) = ck (!decide ((Int32.toInt64 (I 46 44)) = 0)) (evK (d + 1) 282 133 [.ref 46, .int l1, .int l2, .int l3, .int l4, .int l5] [] (den d 179 [.ref 46, .int (Int64.toInt32 (((s1 * s0) / 1000) / (Int32.toInt64 (I 46 44))))] (S sl p I J))) := by
  refine (r_lmul (dk D282 64 rfl)).trans ?_
  refine (r_ld2 (dk D282 65 rfl) ow282 kk12_162).trans ?_
  refine (r_ldiv (dk D282 66 rfl) (by decide)).trans ?_
  refine (r_aln (dk D282 67 rfl) rfl).trans ?_
  refine (r_getI (dk D282 68 rfl) ow282 q12_418 ob_46).trans ?_
  refine (r_i2l (dk D282 69 rfl)).trans ?_
  refine (r_ldivc (dk D282 70 rfl)).trans (ck3 fun g1 => ?_)
  refine (r_l2i (dk D282 71 rfl)).trans ?_
  exact r_cv (dk D282 72 rfl) ow282 c12_193 mf179 (Nat.le_of_ble_eq_true rfl) rfl rfl (Nat.le_of_ble_eq_true rfl) (Nat.le_of_ble_eq_true rfl) ob_46
theorem E282_133 {d sl : Nat} {p : Nat → Nat} {I : Nat → Nat → Int32} {J : Nat → Nat → Int64} (l1 : Int32) (l2 : Int32) (l3 : Int32) (l4 : Int32) (l5 : Int32) (s0 : Int32)  : ev d 282 133 [.ref 46, .int l1, .int l2, .int l3, .int l4, .int l5] [.int s0] (S sl p I J) = some (some (.int s0), (S sl p I J)) := by
  exact r_ret (dk D282 73 rfl) rt282
set_option maxRecDepth 20000 in
theorem D283 : dOK 283 [(0, .aload_n 0, 1), (1, .lload_n 3, 1), (2, .lload 11, 2), (4, .lmul, 1), (5, .lload 5, 2), (7, .lload 9, 2), (9, .lmul, 1), (10, .lsub, 1), (11, .ldc2_w 162, 3), (14, .ldiv, 1), (15, .l2i, 1), (16, .putfield 127, 3), (19, .aload_n 0, 1), (20, .lload 5, 2), (22, .lload 7, 2), (24, .lmul, 1), (25, .lload_n 1, 1), (26, .lload 11, 2), (28, .lmul, 1), (29, .lsub, 1), (30, .ldc2_w 162, 3), (33, .ldiv, 1), (34, .l2i, 1), (35, .putfield 130, 3), (38, .aload_n 0, 1), (39, .lload_n 1, 1), (40, .lload 9, 2), (42, .lmul, 1), (43, .lload_n 3, 1), (44, .lload 7, 2), (46, .lmul, 1), (47, .lsub, 1), (48, .ldc2_w 162, 3), (51, .ldiv, 1), (52, .l2i, 1), (53, .putfield 133, 3), (56, .return_, 1)] = true := by decide +kernel
theorem E283_0 {d sl : Nat} {p : Nat → Nat} {I : Nat → Nat → Int32} {J : Nat → Nat → Int64} (a1 : Int64) (a2 : Int64) (a3 : Int64) (a4 : Int64) (a5 : Int64) (a6 : Int64)  : den d 283 [.ref 46, .long a1, .long a2, .long a3, .long a4, .long a5, .long a6] (S sl p I J) = some (none, (S sl p (up2 (up2 (up2 I 46 23 (Int64.toInt32 (((a2 * a6) - (a3 * a5)) / 1000))) 46 24 (Int64.toInt32 (((a3 * a4) - (a1 * a6)) / 1000))) 46 25 (Int64.toInt32 (((a1 * a5) - (a2 * a4)) / 1000))) J)) := by
  refine (show den d 283 [.ref 46, .long a1, .long a2, .long a3, .long a4, .long a5, .long a6] (S sl p I J) = ev d 283 0 [.ref 46, .long a1, .retAddr 0, .long a2, .retAddr 0, .long a3, .retAddr 0, .long a4, .retAddr 0, .long a5, .retAddr 0, .long a6, .retAddr 0] [] (S sl p I J) from rfl).trans ?_
  refine (r_aln (dk D283 0 rfl) rfl).trans ?_
  refine (r_lln (dk D283 1 rfl) rfl).trans ?_
  refine (r_ll (dk D283 2 rfl) rfl).trans ?_
  refine (r_lmul (dk D283 3 rfl)).trans ?_
  refine (r_ll (dk D283 4 rfl) rfl).trans ?_
  refine (r_ll (dk D283 5 rfl) rfl).trans ?_
  refine (r_lmul (dk D283 6 rfl)).trans ?_
  refine (r_lsub (dk D283 7 rfl)).trans ?_
  refine (r_ld2 (dk D283 8 rfl) ow283 kk12_162).trans ?_
  refine (r_ldiv (dk D283 9 rfl) (by decide)).trans ?_
  refine (r_l2i (dk D283 10 rfl)).trans ?_
  refine (r_putI (dk D283 11 rfl) ow283 w12_127 ob_46).trans ?_
  refine (r_aln (dk D283 12 rfl) rfl).trans ?_
  refine (r_ll (dk D283 13 rfl) rfl).trans ?_
  refine (r_ll (dk D283 14 rfl) rfl).trans ?_
  refine (r_lmul (dk D283 15 rfl)).trans ?_
  refine (r_lln (dk D283 16 rfl) rfl).trans ?_
  refine (r_ll (dk D283 17 rfl) rfl).trans ?_
  refine (r_lmul (dk D283 18 rfl)).trans ?_
  refine (r_lsub (dk D283 19 rfl)).trans ?_
  refine (r_ld2 (dk D283 20 rfl) ow283 kk12_162).trans ?_
  refine (r_ldiv (dk D283 21 rfl) (by decide)).trans ?_
  refine (r_l2i (dk D283 22 rfl)).trans ?_
  refine (r_putI (dk D283 23 rfl) ow283 w12_130 ob_46).trans ?_
  refine (r_aln (dk D283 24 rfl) rfl).trans ?_
  refine (r_lln (dk D283 25 rfl) rfl).trans ?_
  refine (r_ll (dk D283 26 rfl) rfl).trans ?_
  refine (r_lmul (dk D283 27 rfl)).trans ?_
  refine (r_lln (dk D283 28 rfl) rfl).trans ?_
  refine (r_ll (dk D283 29 rfl) rfl).trans ?_
  refine (r_lmul (dk D283 30 rfl)).trans ?_
  refine (r_lsub (dk D283 31 rfl)).trans ?_
  refine (r_ld2 (dk D283 32 rfl) ow283 kk12_162).trans ?_
  refine (r_ldiv (dk D283 33 rfl) (by decide)).trans ?_
  refine (r_l2i (dk D283 34 rfl)).trans ?_
  refine (r_putI (dk D283 35 rfl) ow283 w12_133 ob_46).trans ?_
  exact r_rev (dk D283 36 rfl) rt283
set_option maxRecDepth 20000 in
theorem D284 : dOK 284 [(0, .aload_n 0, 1), (1, .aload_n 0, 1), (2, .getfield 80, 3), (5, .iload_n 1, 1), (6, .iaload, 1), (7, .i2l, 1), (8, .aload_n 0, 1), (9, .getfield 83, 3), (12, .iload_n 1, 1), (13, .iaload, 1), (14, .i2l, 1), (15, .aload_n 0, 1), (16, .getfield 86, 3), (19, .iload_n 1, 1), (20, .iaload, 1), (21, .i2l, 1), (22, .aload_n 0, 1), (23, .getfield 80, 3), (26, .iload_n 2, 1), (27, .iaload, 1), (28, .i2l, 1), (29, .aload_n 0, 1), (30, .getfield 83, 3), (33, .iload_n 2, 1), (34, .iaload, 1), (35, .i2l, 1), (36, .aload_n 0, 1), (37, .getfield 86, 3), (40, .iload_n 2, 1), (41, .iaload, 1), (42, .i2l, 1), (43, .invokevirtual 424, 3), (46, .return_, 1)] = true := by decide +kernel
theorem E284_0 {d sl : Nat} {p : Nat → Nat} {I : Nat → Nat → Int32} {J : Nat → Nat → Int64} (a1 : Int32) (a2 : Int32)  : den (d + 1) 284 [.ref 46, .int a1, .int a2] (S sl p I J) = ck (ixb 30 a1) (ck (ixb 30 a1) (ck (ixb 30 a1) (ck (ixb 30 a2) (ck (ixb 30 a2) (ck (ixb 30 a2) (evK (d + 1) 284 46 [.ref 46, .int a1, .int a2] [] (den d 283 [.ref 46, .long (Int32.toInt64 (I 64 (Int32.toNatClampNeg a1))), .long (Int32.toInt64 (I 65 (Int32.toNatClampNeg a1))), .long (Int32.toInt64 (I 66 (Int32.toNatClampNeg a1))), .long (Int32.toInt64 (I 64 (Int32.toNatClampNeg a2))), .long (Int32.toInt64 (I 65 (Int32.toNatClampNeg a2))), .long (Int32.toInt64 (I 66 (Int32.toNatClampNeg a2)))] (S sl p I J)))))))) := by
  refine (show den (d + 1) 284 [.ref 46, .int a1, .int a2] (S sl p I J) = ev (d + 1) 284 0 [.ref 46, .int a1, .int a2] [] (S sl p I J) from rfl).trans ?_
  refine (r_aln (dk D284 0 rfl) rfl).trans ?_
  refine (r_aln (dk D284 1 rfl) rfl).trans ?_
  refine (r_getR (dk D284 2 rfl) ow284 q12_80 ob_46 rfl).trans ?_
  refine (r_iln (dk D284 3 rfl) rfl).trans ?_
  refine (r_ild (dk D284 4 rfl) ar_64).trans (ck3 fun g1 => ?_)
  refine (r_i2l (dk D284 5 rfl)).trans ?_
  refine (r_aln (dk D284 6 rfl) rfl).trans ?_
  refine (r_getR (dk D284 7 rfl) ow284 q12_83 ob_46 rfl).trans ?_
  refine (r_iln (dk D284 8 rfl) rfl).trans ?_
  refine (r_ild (dk D284 9 rfl) ar_65).trans (ck3 fun g2 => ?_)
  refine (r_i2l (dk D284 10 rfl)).trans ?_
  refine (r_aln (dk D284 11 rfl) rfl).trans ?_
  refine (r_getR (dk D284 12 rfl) ow284 q12_86 ob_46 rfl).trans ?_
  refine (r_iln (dk D284 13 rfl) rfl).trans ?_
  refine (r_ild (dk D284 14 rfl) ar_66).trans (ck3 fun g3 => ?_)
  refine (r_i2l (dk D284 15 rfl)).trans ?_
  refine (r_aln (dk D284 16 rfl) rfl).trans ?_
  refine (r_getR (dk D284 17 rfl) ow284 q12_80 ob_46 rfl).trans ?_
  refine (r_iln (dk D284 18 rfl) rfl).trans ?_
  refine (r_ild (dk D284 19 rfl) ar_64).trans (ck3 fun g4 => ?_)
  refine (r_i2l (dk D284 20 rfl)).trans ?_
  refine (r_aln (dk D284 21 rfl) rfl).trans ?_
  refine (r_getR (dk D284 22 rfl) ow284 q12_83 ob_46 rfl).trans ?_
  refine (r_iln (dk D284 23 rfl) rfl).trans ?_
  refine (r_ild (dk D284 24 rfl) ar_65).trans (ck3 fun g5 => ?_)
  refine (r_i2l (dk D284 25 rfl)).trans ?_
  refine (r_aln (dk D284 26 rfl) rfl).trans ?_
  refine (r_getR (dk D284 27 rfl) ow284 q12_86 ob_46 rfl).trans ?_
  refine (r_iln (dk D284 28 rfl) rfl).trans ?_
  refine (r_ild (dk D284 29 rfl) ar_66).trans (ck3 fun g6 => ?_)
  refine (r_i2l (dk D284 30 rfl)).trans ?_
  exact r_cv (dk D284 31 rfl) ow284 c12_424 mf283 (Nat.le_of_ble_eq_true rfl) rfl rfl (Nat.le_of_ble_eq_true rfl) (Nat.le_of_ble_eq_true rfl) ob_46
theorem E284_46 {d sl : Nat} {p : Nat → Nat} {I : Nat → Nat → Int32} {J : Nat → Nat → Int64} (l1 : Int32) (l2 : Int32)  : ev d 284 46 [.ref 46, .int l1, .int l2] [] (S sl p I J) = some (none, (S sl p I J)) := by
  exact r_rev (dk D284 32 rfl) rt284
set_option maxRecDepth 20000 in
theorem D285 : dOK 285 [(0, .iload_n 0, 1), (1, .iconst 1, 1), (2, .ldc 182, 2), (4, .invokestatic 178, 3), (7, .ireturn, 1)] = true := by decide +kernel
theorem E285_0 {d sl : Nat} {p : Nat → Nat} {I : Nat → Nat → Int32} {J : Nat → Nat → Int64} (a0 : Int32)  : den (d + 1) 285 [.int a0] (S sl p I J) = evK (d + 1) 285 7 [.int a0] [] (den d 181 [.int a0, .int 1, .int 100000] (S sl p I J)) := by
  refine (show den (d + 1) 285 [.int a0] (S sl p I J) = ev (d + 1) 285 0 [.int a0] [] (S sl p I J) from rfl).trans ?_
  refine (r_iln (dk D285 0 rfl) rfl).trans ?_
  refine (r_ic (dk D285 1 rfl) ci1).trans ?_
  refine (r_ldc (dk D285 2 rfl) ow285 k12_182).trans ?_
  exact r_cs (dk D285 3 rfl) ow285 pn12_178 c12_178 mf181 (Nat.le_of_ble_eq_true rfl) rfl rfl (Nat.le_of_ble_eq_true rfl) (Nat.le_of_ble_eq_true rfl)
theorem E285_7 {d sl : Nat} {p : Nat → Nat} {I : Nat → Nat → Int32} {J : Nat → Nat → Int64} (l0 : Int32) (s0 : Int32)  : ev d 285 7 [.int l0] [.int s0] (S sl p I J) = ck (decide (s0 = 0 ∨ s0 = 1)) (some (some (.int s0), (S sl p I J))) := by
  exact r_rezc (dk D285 4 rfl) rt285
set_option maxRecDepth 20000 in
theorem D286 : dOK 286 [(0, .iload 4, 2), (2, .invokestatic 428, 3), (5, .ifCond .eq 19, 3), (8, .iload 5, 2), (10, .invokestatic 428, 3), (13, .ifCond .eq 11, 3), (16, .iload 6, 2), (18, .invokestatic 428, 3), (21, .ifCond .ne 10, 3), (24, .aload_n 0, 1), (25, .iconst 1, 1), (26, .invokevirtual 183, 3), (29, .i2l, 1), (30, .lreturn, 1), (31, .aload_n 0, 1), (32, .invokevirtual 339, 3), (35, .aload_n 0, 1), (36, .iload_n 1, 1), (37, .iload_n 2, 1), (38, .invokevirtual 363, 3), (41, .ifCond .eq 17, 3), (44, .aload_n 0, 1), (45, .iload_n 2, 1), (46, .iload_n 3, 1), (47, .invokevirtual 363, 3), (50, .ifCond .eq 8, 3), (53, .iload_n 1, 1), (54, .iload_n 3, 1), (55, .if_icmp .ne 10, 3), (58, .aload_n 0, 1), (59, .iconst 2, 1), (60, .invokevirtual 183, 3), (63, .i2l, 1), (64, .lreturn, 1), (65, .aload_n 0, 1), (66, .iload_n 2, 1), (67, .iload_n 3, 1), (68, .invokevirtual 431, 3), (71, .aload_n 0, 1), (72, .getfield 80, 3), (75, .iload_n 1, 1), (76, .iaload, 1), (77, .i2l, 1), (78, .aload_n 0, 1), (79, .getfield 83, 3), (82, .iload_n 1, 1), (83, .iaload, 1), (84, .i2l, 1), (85, .aload_n 0, 1), (86, .getfield 86, 3), (89, .iload_n 1, 1), (90, .iaload, 1), (91, .i2l, 1), (92, .aload_n 0, 1), (93, .getfield 127, 3), (96, .i2l, 1), (97, .aload_n 0, 1), (98, .getfield 130, 3), (101, .i2l, 1), (102, .aload_n 0, 1), (103, .getfield 133, 3), (106, .i2l, 1), (107, .invokestatic 136, 3), (110, .invokestatic 434, 3), (113, .ldc2_w 162, 3), (116, .ldiv, 1), (117, .lstore 7, 2), (119, .lload 7, 2), (121, .lconst 0, 1), (122, .lcmp, 1), (123, .ifCond .ne 12, 3), (126, .aload_n 0, 1), (127, .iconst 5, 1), (128, .invokevirtual 183, 3), (131, .i2l, 1), (132, .goto 25, 3), (135, .aload_n 0, 1), (136, .iload 4, 2), (138, .i2l, 1), (139, .iload 5, 2), (141, .i2l, 1), (142, .lmul, 1), (143, .iload 6, 2), (145, .i2l, 1), (146, .lmul, 1), (147, .ldc2_w 162, 3), (150, .lmul, 1), (151, .lload 7, 2), (153, .ldiv, 1), (154, .invokevirtual 345, 3), (157, .lreturn, 1)] = true := by decide +kernel
theorem E286_0 {d sl : Nat} {p : Nat → Nat} {I : Nat → Nat → Int32} {J : Nat → Nat → Int64} (a1 : Int32) (a2 : Int32) (a3 : Int32) (a4 : Int32) (a5 : Int32) (a6 : Int32)  : den (d + 1) 286 [.ref 46, .int a1, .int a2, .int a3, .int a4, .int a5, .int a6] (S sl p I J) = evK (d + 1) 286 5 [.ref 46, .int a1, .int a2, .int a3, .int a4, .int a5, .int a6, .retAddr 0, .retAddr 0] [] (den d 285 [.int a4] (S sl p I J)) := by
  refine (show den (d + 1) 286 [.ref 46, .int a1, .int a2, .int a3, .int a4, .int a5, .int a6] (S sl p I J) = ev (d + 1) 286 0 [.ref 46, .int a1, .int a2, .int a3, .int a4, .int a5, .int a6, .retAddr 0, .retAddr 0] [] (S sl p I J) from rfl).trans ?_
  refine (r_il (dk D286 0 rfl) rfl).trans ?_
  exact r_cs (dk D286 1 rfl) ow286 pn12_428 c12_428 mf285 (Nat.le_of_ble_eq_true rfl) rfl rfl (Nat.le_of_ble_eq_true rfl) (Nat.le_of_ble_eq_true rfl)
theorem E286_5 {d sl : Nat} {p : Nat → Nat} {I : Nat → Nat → Int32} {J : Nat → Nat → Int64} (l1 : Int32) (l2 : Int32) (l3 : Int32) (l4 : Int32) (l5 : Int32) (l6 : Int32) (s0 : Int32)  : ev (d + 1) 286 5 [.ref 46, .int l1, .int l2, .int l3, .int l4, .int l5, .int l6, .retAddr 0, .retAddr 0] [.int s0] (S sl p I J) = (if s0 = 0 then ev (d + 1) 286 24 [.ref 46, .int l1, .int l2, .int l3, .int l4, .int l5, .int l6, .retAddr 0, .retAddr 0] [] (S sl p I J) else evK (d + 1) 286 13 [.ref 46, .int l1, .int l2, .int l3, .int l4, .int l5, .int l6, .retAddr 0, .retAddr 0] [] (den d 285 [.int l5] (S sl p I J))) := by
  refine (r_eq0 (dk D286 2 rfl) rfl).trans (ite2 ?_ ?_)
  · exact rfl
  · refine (r_il (dk D286 3 rfl) rfl).trans ?_
    exact r_cs (dk D286 4 rfl) ow286 pn12_428 c12_428 mf285 (Nat.le_of_ble_eq_true rfl) rfl rfl (Nat.le_of_ble_eq_true rfl) (Nat.le_of_ble_eq_true rfl)
theorem E286_13 {d sl : Nat} {p : Nat → Nat} {I : Nat → Nat → Int32} {J : Nat → Nat → Int64} (l1 : Int32) (l2 : Int32) (l3 : Int32) (l4 : Int32) (l5 : Int32) (l6 : Int32) (s0 : Int32)  : ev (d + 1) 286 13 [.ref 46, .int l1, .int l2, .int l3, .int l4, .int l5, .int l6, .retAddr 0, .retAddr 0] [.int s0] (S sl p I J) = (if s0 = 0 then ev (d + 1) 286 24 [.ref 46, .int l1, .int l2, .int l3, .int l4, .int l5, .int l6, .retAddr 0, .retAddr 0] [] (S sl p I J) else evK (d + 1) 286 21 [.ref 46, .int l1, .int l2, .int l3, .int l4, .int l5, .int l6, .retAddr 0, .retAddr 0] [] (den d 285 [.int l6] (S sl p I J))) := by
  refine (r_eq0 (dk D286 5 rfl) rfl).trans (ite2 ?_ ?_)
  · exact rfl
  · refine (r_il (dk D286 6 rfl) rfl).trans ?_
    exact r_cs (dk D286 7 rfl) ow286 pn12_428 c12_428 mf285 (Nat.le_of_ble_eq_true rfl) rfl rfl (Nat.le_of_ble_eq_true rfl) (Nat.le_of_ble_eq_true rfl)
theorem E286_21 {d sl : Nat} {p : Nat → Nat} {I : Nat → Nat → Int32} {J : Nat → Nat → Int64} (l1 : Int32) (l2 : Int32) (l3 : Int32) (l4 : Int32) (l5 : Int32) (l6 : Int32) (s0 : Int32)  : ev (d + 1) 286 21 [.ref 46, .int l1, .int l2, .int l3, .int l4, .int l5, .int l6, .retAddr 0, .retAddr 0] [.int s0] (S sl p I J) = (if s0 = 0 then ev (d + 1) 286 24 [.ref 46, .int l1, .int l2, .int l3, .int l4, .int l5, .int l6, .retAddr 0, .retAddr 0] [] (S sl p I J) else evK (d + 1) 286 35 [.ref 46, .int l1, .int l2, .int l3, .int l4, .int l5, .int l6, .retAddr 0, .retAddr 0] [] (den d 221 [.ref 46] (S sl p I J))) := by
  refine (r_ne0 (dk D286 8 rfl) rfl).trans (ite2 ?_ ?_)
  · exact rfl
  · refine (r_aln (dk D286 14 rfl) rfl).trans ?_
    exact r_cv (dk D286 15 rfl) ow286 c12_339 mf221 (Nat.le_of_ble_eq_true rfl) rfl rfl (Nat.le_of_ble_eq_true rfl) (Nat.le_of_ble_eq_true rfl) ob_46
theorem E286_24 {d sl : Nat} {p : Nat → Nat} {I : Nat → Nat → Int32} {J : Nat → Nat → Int64} (l1 : Int32) (l2 : Int32) (l3 : Int32) (l4 : Int32) (l5 : Int32) (l6 : Int32)  : ev (d + 1) 286 24 [.ref 46, .int l1, .int l2, .int l3, .int l4, .int l5, .int l6, .retAddr 0, .retAddr 0] [] (S sl p I J) = evK (d + 1) 286 29 [.ref 46, .int l1, .int l2, .int l3, .int l4, .int l5, .int l6, .retAddr 0, .retAddr 0] [] (den d 178 [.ref 46, .int 1] (S sl p I J)) := by
  refine (r_aln (dk D286 9 rfl) rfl).trans ?_
  refine (r_ic (dk D286 10 rfl) ci1).trans ?_
  exact r_cv (dk D286 11 rfl) ow286 c12_183 mf178 (Nat.le_of_ble_eq_true rfl) rfl rfl (Nat.le_of_ble_eq_true rfl) (Nat.le_of_ble_eq_true rfl) ob_46
theorem E286_29 {d sl : Nat} {p : Nat → Nat} {I : Nat → Nat → Int32} {J : Nat → Nat → Int64} (l1 : Int32) (l2 : Int32) (l3 : Int32) (l4 : Int32) (l5 : Int32) (l6 : Int32) (s0 : Int32)  : ev d 286 29 [.ref 46, .int l1, .int l2, .int l3, .int l4, .int l5, .int l6, .retAddr 0, .retAddr 0] [.int s0] (S sl p I J) = some (some (.long (Int32.toInt64 s0)), (S sl p I J)) := by
  refine (r_i2l (dk D286 12 rfl)).trans ?_
  exact r_rel (dk D286 13 rfl) rt286
theorem E286_35 {d sl : Nat} {p : Nat → Nat} {I : Nat → Nat → Int32} {J : Nat → Nat → Int64} (l1 : Int32) (l2 : Int32) (l3 : Int32) (l4 : Int32) (l5 : Int32) (l6 : Int32)  : ev (d + 1) 286 35 [.ref 46, .int l1, .int l2, .int l3, .int l4, .int l5, .int l6, .retAddr 0, .retAddr 0] [] (S sl p I J) = evK (d + 1) 286 41 [.ref 46, .int l1, .int l2, .int l3, .int l4, .int l5, .int l6, .retAddr 0, .retAddr 0] [] (den d 236 [.ref 46, .int l1, .int l2] (S sl p I J)) := by
  refine (r_aln (dk D286 16 rfl) rfl).trans ?_
  refine (r_iln (dk D286 17 rfl) rfl).trans ?_
  refine (r_iln (dk D286 18 rfl) rfl).trans ?_
  exact r_cv (dk D286 19 rfl) ow286 c12_363 mf236 (Nat.le_of_ble_eq_true rfl) rfl rfl (Nat.le_of_ble_eq_true rfl) (Nat.le_of_ble_eq_true rfl) ob_46
theorem E286_41 {d sl : Nat} {p : Nat → Nat} {I : Nat → Nat → Int32} {J : Nat → Nat → Int64} (l1 : Int32) (l2 : Int32) (l3 : Int32) (l4 : Int32) (l5 : Int32) (l6 : Int32) (s0 : Int32)  : ev (d + 1) 286 41 [.ref 46, .int l1, .int l2, .int l3, .int l4, .int l5, .int l6, .retAddr 0, .retAddr 0] [.int s0] (S sl p I J) = (if s0 = 0 then ev (d + 1) 286 58 [.ref 46, .int l1, .int l2, .int l3, .int l4, .int l5, .int l6, .retAddr 0, .retAddr 0] [] (S sl p I J) else evK (d + 1) 286 50 [.ref 46, .int l1, .int l2, .int l3, .int l4, .int l5, .int l6, .retAddr 0, .retAddr 0] [] (den d 236 [.ref 46, .int l2, .int l3] (S sl p I J))) := by
  refine (r_eq0 (dk D286 20 rfl) rfl).trans (ite2 ?_ ?_)
  · exact rfl
  · refine (r_aln (dk D286 21 rfl) rfl).trans ?_
    refine (r_iln (dk D286 22 rfl) rfl).trans ?_
    refine (r_iln (dk D286 23 rfl) rfl).trans ?_
    exact r_cv (dk D286 24 rfl) ow286 c12_363 mf236 (Nat.le_of_ble_eq_true rfl) rfl rfl (Nat.le_of_ble_eq_true rfl) (Nat.le_of_ble_eq_true rfl) ob_46
theorem E286_50 {d sl : Nat} {p : Nat → Nat} {I : Nat → Nat → Int32} {J : Nat → Nat → Int64} (l1 : Int32) (l2 : Int32) (l3 : Int32) (l4 : Int32) (l5 : Int32) (l6 : Int32) (s0 : Int32)  : ev (d + 1) 286 50 [.ref 46, .int l1, .int l2, .int l3, .int l4, .int l5, .int l6, .retAddr 0, .retAddr 0] [.int s0] (S sl p I J) = (if s0 = 0 then ev (d + 1) 286 58 [.ref 46, .int l1, .int l2, .int l3, .int l4, .int l5, .int l6, .retAddr 0, .retAddr 0] [] (S sl p I J) else (if l1 = l3 then ev (d + 1) 286 58 [.ref 46, .int l1, .int l2, .int l3, .int l4, .int l5, .int l6, .retAddr 0, .retAddr 0] [] (S sl p I J) else evK (d + 1) 286 71 [.ref 46, .int l1, .int l2, .int l3, .int l4, .int l5, .int l6, .retAddr 0, .retAddr 0] [] (den d 284 [.ref 46, .int l2, .int l3] (S sl p I J)))) := by
  refine (r_eq0 (dk D286 25 rfl) rfl).trans (ite2 ?_ ?_)
  · exact rfl
  · refine (r_iln (dk D286 26 rfl) rfl).trans ?_
    refine (r_iln (dk D286 27 rfl) rfl).trans ?_
    refine (r_ne (dk D286 28 rfl) rfl).trans (ite2 ?_ ?_)
    · exact rfl
    · refine (r_aln (dk D286 34 rfl) rfl).trans ?_
      refine (r_iln (dk D286 35 rfl) rfl).trans ?_
      refine (r_iln (dk D286 36 rfl) rfl).trans ?_
      exact r_cv (dk D286 37 rfl) ow286 c12_431 mf284 (Nat.le_of_ble_eq_true rfl) rfl rfl (Nat.le_of_ble_eq_true rfl) (Nat.le_of_ble_eq_true rfl) ob_46
theorem E286_58 {d sl : Nat} {p : Nat → Nat} {I : Nat → Nat → Int32} {J : Nat → Nat → Int64} (l1 : Int32) (l2 : Int32) (l3 : Int32) (l4 : Int32) (l5 : Int32) (l6 : Int32)  : ev (d + 1) 286 58 [.ref 46, .int l1, .int l2, .int l3, .int l4, .int l5, .int l6, .retAddr 0, .retAddr 0] [] (S sl p I J) = evK (d + 1) 286 63 [.ref 46, .int l1, .int l2, .int l3, .int l4, .int l5, .int l6, .retAddr 0, .retAddr 0] [] (den d 178 [.ref 46, .int 2] (S sl p I J)) := by
  refine (r_aln (dk D286 29 rfl) rfl).trans ?_
  refine (r_ic (dk D286 30 rfl) ci2).trans ?_
  exact r_cv (dk D286 31 rfl) ow286 c12_183 mf178 (Nat.le_of_ble_eq_true rfl) rfl rfl (Nat.le_of_ble_eq_true rfl) (Nat.le_of_ble_eq_true rfl) ob_46
theorem E286_63 {d sl : Nat} {p : Nat → Nat} {I : Nat → Nat → Int32} {J : Nat → Nat → Int64} (l1 : Int32) (l2 : Int32) (l3 : Int32) (l4 : Int32) (l5 : Int32) (l6 : Int32) (s0 : Int32)  : ev d 286 63 [.ref 46, .int l1, .int l2, .int l3, .int l4, .int l5, .int l6, .retAddr 0, .retAddr 0] [.int s0] (S sl p I J) = some (some (.long (Int32.toInt64 s0)), (S sl p I J)) := by
  refine (r_i2l (dk D286 32 rfl)).trans ?_
  exact r_rel (dk D286 33 rfl) rt286
theorem E286_71 {d sl : Nat} {p : Nat → Nat} {I : Nat → Nat → Int32} {J : Nat → Nat → Int64} (l1 : Int32) (l2 : Int32) (l3 : Int32) (l4 : Int32) (l5 : Int32) (l6 : Int32)  : ev (d + 1) 286 71 [.ref 46, .int l1, .int l2, .int l3, .int l4, .int l5, .int l6, .retAddr 0, .retAddr 0] [] (S sl p I J) = ck (ixb 30 l1) (ck (ixb 30 l1) (ck (ixb 30 l1) (evK (d + 1) 286 110 [.ref 46, .int l1, .int l2, .int l3, .int l4, .int l5, .int l6, .retAddr 0, .retAddr 0] [] (den d 188 [.long (Int32.toInt64 (I 64 (Int32.toNatClampNeg l1))), .long (Int32.toInt64 (I 65 (Int32.toNatClampNeg l1))), .long (Int32.toInt64 (I 66 (Int32.toNatClampNeg l1))), .long (Int32.toInt64 (I 46 23)), .long (Int32.toInt64 (I 46 24)), .long (Int32.toInt64 (I 46 25))] (S sl p I J))))) := by
  refine (r_aln (dk D286 38 rfl) rfl).trans ?_
  refine (r_getR (dk D286 39 rfl) ow286 q12_80 ob_46 rfl).trans ?_
  refine (r_iln (dk D286 40 rfl) rfl).trans ?_
  refine (r_ild (dk D286 41 rfl) ar_64).trans (ck3 fun g1 => ?_)
  refine (r_i2l (dk D286 42 rfl)).trans ?_
  refine (r_aln (dk D286 43 rfl) rfl).trans ?_
  refine (r_getR (dk D286 44 rfl) ow286 q12_83 ob_46 rfl).trans ?_
  refine (r_iln (dk D286 45 rfl) rfl).trans ?_
  refine (r_ild (dk D286 46 rfl) ar_65).trans (ck3 fun g2 => ?_)
  refine (r_i2l (dk D286 47 rfl)).trans ?_
  refine (r_aln (dk D286 48 rfl) rfl).trans ?_
  refine (r_getR (dk D286 49 rfl) ow286 q12_86 ob_46 rfl).trans ?_
  refine (r_iln (dk D286 50 rfl) rfl).trans ?_
  refine (r_ild (dk D286 51 rfl) ar_66).trans (ck3 fun g3 => ?_)
  refine (r_i2l (dk D286 52 rfl)).trans ?_
  refine (r_aln (dk D286 53 rfl) rfl).trans ?_
  refine (r_getI (dk D286 54 rfl) ow286 q12_127 ob_46).trans ?_
  refine (r_i2l (dk D286 55 rfl)).trans ?_
  refine (r_aln (dk D286 56 rfl) rfl).trans ?_
  refine (r_getI (dk D286 57 rfl) ow286 q12_130 ob_46).trans ?_
  refine (r_i2l (dk D286 58 rfl)).trans ?_
  refine (r_aln (dk D286 59 rfl) rfl).trans ?_
  refine (r_getI (dk D286 60 rfl) ow286 q12_133 ob_46).trans ?_
  refine (r_i2l (dk D286 61 rfl)).trans ?_
  exact r_cs (dk D286 62 rfl) ow286 pn12_136 c12_136 mf188 (Nat.le_of_ble_eq_true rfl) rfl rfl (Nat.le_of_ble_eq_true rfl) (Nat.le_of_ble_eq_true rfl)
theorem E286_110 {d sl : Nat} {p : Nat → Nat} {I : Nat → Nat → Int32} {J : Nat → Nat → Int64} (l1 : Int32) (l2 : Int32) (l3 : Int32) (l4 : Int32) (l5 : Int32) (l6 : Int32) (s0 : Int64)  : ev (d + 1) 286 110 [.ref 46, .int l1, .int l2, .int l3, .int l4, .int l5, .int l6, .retAddr 0, .retAddr 0] [.long s0] (S sl p I J) = (if ((if 0 < s0 then s0 else -s0) / 1000) = 0 then evK (d + 1) 286 131 [.ref 46, .int l1, .int l2, .int l3, .int l4, .int l5, .int l6, .long ((if 0 < s0 then s0 else -s0) / 1000), .retAddr 0] [] (den d 178 [.ref 46, .int 5] (S sl p I J)) else ck (!decide (((if 0 < s0 then s0 else -s0) / 1000) = 0)) (evK (d + 1) 286 157 [.ref 46, .int l1, .int l2, .int l3, .int l4, .int l5, .int l6, .long ((if 0 < s0 then s0 else -s0) / 1000), .retAddr 0] [] (den d 180 [.ref 46, .long (((((Int32.toInt64 l4) * (Int32.toInt64 l5)) * (Int32.toInt64 l6)) * 1000) / ((if 0 < s0 then s0 else -s0) / 1000))] (S sl p I J)))) := by
  refine (r_prm (st' := [.long (if 0 < s0 then s0 else -s0)]) (dk D286 63 rfl) ow286 p12_434 (Nat.le_of_ble_eq_true rfl) rfl).trans ?_
  refine (r_ld2 (dk D286 64 rfl) ow286 kk12_162).trans ?_
  refine (r_ldiv (dk D286 65 rfl) (by decide)).trans ?_
  refine (r_ls (L' := [.ref 46, .int l1, .int l2, .int l3, .int l4, .int l5, .int l6, .long ((if 0 < s0 then s0 else -s0) / 1000), .retAddr 0]) (dk D286 66 rfl) (Nat.le_of_ble_eq_true rfl) rfl).trans ?_
  refine (r_ll (dk D286 67 rfl) rfl).trans ?_
  refine (r_lc (dk D286 68 rfl) cl0).trans ?_
  refine (r_jne (dk D286 69 rfl) (dk D286 70 rfl) rfl).trans (ite2 ?_ ?_)
  · refine (r_aln (dk D286 71 rfl) rfl).trans ?_
    refine (r_ic (dk D286 72 rfl) ci5).trans ?_
    exact r_cv (dk D286 73 rfl) ow286 c12_183 mf178 (Nat.le_of_ble_eq_true rfl) rfl rfl (Nat.le_of_ble_eq_true rfl) (Nat.le_of_ble_eq_true rfl) ob_46
  · refine (r_aln (dk D286 76 rfl) rfl).trans ?_
    refine (r_il (dk D286 77 rfl) rfl).trans ?_
    refine (r_i2l (dk D286 78 rfl)).trans ?_
    refine (r_il (dk D286 79 rfl) rfl).trans ?_
    refine (r_i2l (dk D286 80 rfl)).trans ?_
    refine (r_lmul (dk D286 81 rfl)).trans ?_
    refine (r_il (dk D286 82 rfl) rfl).trans ?_
    refine (r_i2l (dk D286 83 rfl)).trans ?_
    refine (r_lmul (dk D286 84 rfl)).trans ?_
    refine (r_ld2 (dk D286 85 rfl) ow286 kk12_162).trans ?_
    refine (r_lmul (dk D286 86 rfl)).trans ?_
    refine (r_ll (dk D286 87 rfl) rfl).trans ?_
    refine (r_ldivc (dk D286 88 rfl)).trans (ck3 fun g1 => ?_)
    exact r_cv (dk D286 89 rfl) ow286 c12_345 mf180 (Nat.le_of_ble_eq_true rfl) rfl rfl (Nat.le_of_ble_eq_true rfl) (Nat.le_of_ble_eq_true rfl) ob_46
theorem E286_131 {d sl : Nat} {p : Nat → Nat} {I : Nat → Nat → Int32} {J : Nat → Nat → Int64} (l1 : Int32) (l2 : Int32) (l3 : Int32) (l4 : Int32) (l5 : Int32) (l6 : Int32) (l7 : Int64) (s0 : Int32)  : ev d 286 131 [.ref 46, .int l1, .int l2, .int l3, .int l4, .int l5, .int l6, .long l7, .retAddr 0] [.int s0] (S sl p I J) = some (some (.long (Int32.toInt64 s0)), (S sl p I J)) := by
  refine (r_i2l (dk D286 74 rfl)).trans ?_
  refine (r_goto (L' := [.ref 46, .int l1, .int l2, .int l3, .int l4, .int l5, .int l6, .long l7, .retAddr 0]) (dk D286 75 rfl) rfl nd286_157 rfl).trans ?_
  exact r_rel (dk D286 90 rfl) rt286
theorem E286_157 {d sl : Nat} {p : Nat → Nat} {I : Nat → Nat → Int32} {J : Nat → Nat → Int64} (l1 : Int32) (l2 : Int32) (l3 : Int32) (l4 : Int32) (l5 : Int32) (l6 : Int32) (l7 : Int64) (s0 : Int64)  : ev d 286 157 [.ref 46, .int l1, .int l2, .int l3, .int l4, .int l5, .int l6, .long l7, .retAddr 0] [.long s0] (S sl p I J) = some (some (.long s0), (S sl p I J)) := by
  exact r_rel (dk D286 90 rfl) rt286
set_option maxRecDepth 20000 in
theorem D287 : dOK 287 [(0, .aload_n 0, 1), (1, .iload_n 1, 1), (2, .iload_n 2, 1), (3, .invokestatic 236, 3), (6, .iload_n 1, 1), (7, .iload_n 2, 1), (8, .invokestatic 318, 3), (11, .invokevirtual 431, 3), (14, .aload_n 0, 1), (15, .invokevirtual 273, 3), (18, .aload_n 0, 1), (19, .getfield 127, 3), (22, .ifCond .ne 17, 3), (25, .aload_n 0, 1), (26, .getfield 130, 3), (29, .ifCond .ne 10, 3), (32, .aload_n 0, 1), (33, .getfield 133, 3), (36, .ifCond .eq 7, 3), (39, .iconst 1, 1), (40, .goto 4, 3), (43, .iconst 0, 1), (44, .ireturn, 1)] = true := by decide +kernel
theorem E287_0 {d sl : Nat} {p : Nat → Nat} {I : Nat → Nat → Int32} {J : Nat → Nat → Int64} (a1 : Int32) (a2 : Int32)  : den (d + 1) 287 [.ref 46, .int a1, .int a2] (S sl p I J) = evK (d + 1) 287 14 [.ref 46, .int a1, .int a2] [] (den d 284 [.ref 46, .int (if a2 < a1 then a2 else a1), .int (if a1 < a2 then a2 else a1)] (S sl p I J)) := by
  refine (show den (d + 1) 287 [.ref 46, .int a1, .int a2] (S sl p I J) = ev (d + 1) 287 0 [.ref 46, .int a1, .int a2] [] (S sl p I J) from rfl).trans ?_
  refine (r_aln (dk D287 0 rfl) rfl).trans ?_
  refine (r_iln (dk D287 1 rfl) rfl).trans ?_
  refine (r_iln (dk D287 2 rfl) rfl).trans ?_
  refine (r_prm (st' := [.int (if a2 < a1 then a2 else a1), .ref 46]) (dk D287 3 rfl) ow287 p12_236 (Nat.le_of_ble_eq_true rfl) rfl).trans ?_
  refine (r_iln (dk D287 4 rfl) rfl).trans ?_
  refine (r_iln (dk D287 5 rfl) rfl).trans ?_
  refine (r_prm (st' := [.int (if a1 < a2 then a2 else a1), .int (if a2 < a1 then a2 else a1), .ref 46]) (dk D287 6 rfl) ow287 p12_318 (Nat.le_of_ble_eq_true rfl) rfl).trans ?_
  exact r_cv (dk D287 7 rfl) ow287 c12_431 mf284 (Nat.le_of_ble_eq_true rfl) rfl rfl (Nat.le_of_ble_eq_true rfl) (Nat.le_of_ble_eq_true rfl) ob_46
theorem E287_14 {d sl : Nat} {p : Nat → Nat} {I : Nat → Nat → Int32} {J : Nat → Nat → Int64} (l1 : Int32) (l2 : Int32)  : ev (d + 1) 287 14 [.ref 46, .int l1, .int l2] [] (S sl p I J) = evK (d + 1) 287 18 [.ref 46, .int l1, .int l2] [] (den d 218 [.ref 46] (S sl p I J)) := by
  refine (r_aln (dk D287 8 rfl) rfl).trans ?_
  exact r_cv (dk D287 9 rfl) ow287 c12_273 mf218 (Nat.le_of_ble_eq_true rfl) rfl rfl (Nat.le_of_ble_eq_true rfl) (Nat.le_of_ble_eq_true rfl) ob_46
theorem E287_18 {d sl : Nat} {p : Nat → Nat} {I : Nat → Nat → Int32} {J : Nat → Nat → Int64} (l1 : Int32) (l2 : Int32)  : ev d 287 18 [.ref 46, .int l1, .int l2] [] (S sl p I J) = (if (I 46 23) = 0 then (if (I 46 24) = 0 then (if (I 46 25) = 0 then some (some (.int 0), (S sl p I J)) else some (some (.int 1), (S sl p I J))) else some (some (.int 1), (S sl p I J))) else some (some (.int 1), (S sl p I J))) := by
  refine (r_aln (dk D287 10 rfl) rfl).trans ?_
  refine (r_getI (dk D287 11 rfl) ow287 q12_127 ob_46).trans ?_
  refine (r_ne0 (dk D287 12 rfl) rfl).trans (ite2 ?_ ?_)
  · refine (r_aln (dk D287 13 rfl) rfl).trans ?_
    refine (r_getI (dk D287 14 rfl) ow287 q12_130 ob_46).trans ?_
    refine (r_ne0 (dk D287 15 rfl) rfl).trans (ite2 ?_ ?_)
    · refine (r_aln (dk D287 16 rfl) rfl).trans ?_
      refine (r_getI (dk D287 17 rfl) ow287 q12_133 ob_46).trans ?_
      refine (r_eq0 (dk D287 18 rfl) rfl).trans (ite2 ?_ ?_)
      · refine (r_ic (dk D287 21 rfl) ci0).trans ?_
        exact r_rez (dk D287 22 rfl) rt287 (by decide)
      · refine (r_ic (dk D287 19 rfl) ci1).trans ?_
        refine (r_goto (L' := [.ref 46, .int l1, .int l2]) (dk D287 20 rfl) rfl nd287_44 rfl).trans ?_
        exact r_rez (dk D287 22 rfl) rt287 (by decide)
    · refine (r_ic (dk D287 19 rfl) ci1).trans ?_
      refine (r_goto (L' := [.ref 46, .int l1, .int l2]) (dk D287 20 rfl) rfl nd287_44 rfl).trans ?_
      exact r_rez (dk D287 22 rfl) rt287 (by decide)
  · refine (r_ic (dk D287 19 rfl) ci1).trans ?_
    refine (r_goto (L' := [.ref 46, .int l1, .int l2]) (dk D287 20 rfl) rfl nd287_44 rfl).trans ?_
    exact r_rez (dk D287 22 rfl) rt287 (by decide)
set_option maxRecDepth 20000 in
theorem D288 : dOK 288 [(0, .aload_n 0, 1), (1, .aload_n 0, 1), (2, .invokevirtual 294, 3), (5, .invokevirtual 297, 3), (8, .istore_n 1, 1), (9, .iconst 0, 1), (10, .istore_n 2, 1), (11, .iconst 1, 1), (12, .istore_n 3, 1), (13, .iload_n 3, 1), (14, .bipush 90, 2), (16, .if_icmp .gt 50, 3), (19, .iload_n 1, 1), (20, .iload_n 3, 1), (21, .invokestatic 124, 3), (24, .imul, 1), (25, .aload_n 0, 1), (26, .getfield 133, 3), (29, .iload_n 3, 1), (30, .invokestatic 111, 3), (33, .imul, 1), (34, .iadd, 1), (35, .iload_n 1, 1), (36, .iload_n 2, 1), (37, .invokestatic 124, 3), (40, .imul, 1), (41, .aload_n 0, 1), (42, .getfield 133, 3), (45, .iload_n 2, 1), (46, .invokestatic 111, 3), (49, .imul, 1), (50, .iadd, 1), (51, .if_icmp .le 7, 3), (54, .iload_n 3, 1), (55, .goto 4, 3), (58, .iload_n 2, 1), (59, .istore_n 2, 1), (60, .iinc 3 1, 3), (63, .goto (-50), 3), (66, .iload_n 2, 1), (67, .ireturn, 1)] = true := by decide +kernel
theorem E288_0 {d sl : Nat} {p : Nat → Nat} {I : Nat → Nat → Int32} {J : Nat → Nat → Int64}   : den (d + 1) 288 [.ref 46] (S sl p I J) = evK (d + 1) 288 5 [.ref 46, .retAddr 0, .retAddr 0, .retAddr 0] [.ref 46] (den d 223 [.ref 46] (S sl p I J)) := by
  refine (show den (d + 1) 288 [.ref 46] (S sl p I J) = ev (d + 1) 288 0 [.ref 46, .retAddr 0, .retAddr 0, .retAddr 0] [] (S sl p I J) from rfl).trans ?_
  refine (r_aln (dk D288 0 rfl) rfl).trans ?_
  refine (r_aln (dk D288 1 rfl) rfl).trans ?_
  exact r_cv (dk D288 2 rfl) ow288 c12_294 mf223 (Nat.le_of_ble_eq_true rfl) rfl rfl (Nat.le_of_ble_eq_true rfl) (Nat.le_of_ble_eq_true rfl) ob_46
theorem E288_5 {d sl : Nat} {p : Nat → Nat} {I : Nat → Nat → Int32} {J : Nat → Nat → Int64} (s0 : Int32)  : ev (d + 1) 288 5 [.ref 46, .retAddr 0, .retAddr 0, .retAddr 0] [.int s0, .ref 46] (S sl p I J) = evK (d + 1) 288 8 [.ref 46, .retAddr 0, .retAddr 0, .retAddr 0] [] (den d 224 [.ref 46, .int s0] (S sl p I J)) := by
  exact r_cv (dk D288 3 rfl) ow288 c12_297 mf224 (Nat.le_of_ble_eq_true rfl) rfl rfl (Nat.le_of_ble_eq_true rfl) (Nat.le_of_ble_eq_true rfl) ob_46
theorem E288_8 {d sl : Nat} {p : Nat → Nat} {I : Nat → Nat → Int32} {J : Nat → Nat → Int64} (s0 : Int32)  : ev d 288 8 [.ref 46, .retAddr 0, .retAddr 0, .retAddr 0] [.int s0] (S sl p I J) = ev d 288 13 [.ref 46, .int s0, .int 0, .int 1] [] (S sl p I J) := by
  refine (r_isn (L' := [.ref 46, .int s0, .retAddr 0, .retAddr 0]) (dk D288 4 rfl) (Nat.le_of_ble_eq_true rfl) rfl).trans ?_
  refine (r_ic (dk D288 5 rfl) ci0).trans ?_
  refine (r_isn (L' := [.ref 46, .int s0, .int 0, .retAddr 0]) (dk D288 6 rfl) (Nat.le_of_ble_eq_true rfl) rfl).trans ?_
  refine (r_ic (dk D288 7 rfl) ci1).trans ?_
  refine (r_isn (L' := [.ref 46, .int s0, .int 0, .int 1]) (dk D288 8 rfl) (Nat.le_of_ble_eq_true rfl) rfl).trans ?_
  exact rfl
theorem E288_13 {d sl : Nat} {p : Nat → Nat} {I : Nat → Nat → Int32} {J : Nat → Nat → Int64} (l1 : Int32) (l2 : Int32) (l3 : Int32)  : ev (d + 1) 288 13 [.ref 46, .int l1, .int l2, .int l3] [] (S sl p I J) = (if l3 ≤ 90 then evK (d + 1) 288 24 [.ref 46, .int l1, .int l2, .int l3] [.int l1] (den d 183 [.int l3] (S sl p I J)) else some (some (.int l2), (S sl p I J))) := by
  refine (r_iln (dk D288 9 rfl) rfl).trans ?_
  refine (r_bp (dk D288 10 rfl) cb90).trans ?_
  refine (r_gt (dk D288 11 rfl) rfl).trans (ite2 ?_ ?_)
  · refine (r_iln (dk D288 12 rfl) rfl).trans ?_
    refine (r_iln (dk D288 13 rfl) rfl).trans ?_
    exact r_cs (dk D288 14 rfl) ow288 pn12_124 c12_124 mf183 (Nat.le_of_ble_eq_true rfl) rfl rfl (Nat.le_of_ble_eq_true rfl) (Nat.le_of_ble_eq_true rfl)
  · refine (r_iln (dk D288 39 rfl) rfl).trans ?_
    exact r_ret (dk D288 40 rfl) rt288
theorem E288_24 {d sl : Nat} {p : Nat → Nat} {I : Nat → Nat → Int32} {J : Nat → Nat → Int64} (l1 : Int32) (l2 : Int32) (l3 : Int32) (s0 : Int32) (s1 : Int32)  : ev (d + 1) 288 24 [.ref 46, .int l1, .int l2, .int l3] [.int s0, .int s1] (S sl p I J) = evK (d + 1) 288 33 [.ref 46, .int l1, .int l2, .int l3] [.int (I 46 25), .int (s1 * s0)] (den d 182 [.int l3] (S sl p I J)) := by
  refine (r_imul (dk D288 15 rfl)).trans ?_
  refine (r_aln (dk D288 16 rfl) rfl).trans ?_
  refine (r_getI (dk D288 17 rfl) ow288 q12_133 ob_46).trans ?_
  refine (r_iln (dk D288 18 rfl) rfl).trans ?_
  exact r_cs (dk D288 19 rfl) ow288 pn12_111 c12_111 mf182 (Nat.le_of_ble_eq_true rfl) rfl rfl (Nat.le_of_ble_eq_true rfl) (Nat.le_of_ble_eq_true rfl)
theorem E288_33 {d sl : Nat} {p : Nat → Nat} {I : Nat → Nat → Int32} {J : Nat → Nat → Int64} (l1 : Int32) (l2 : Int32) (l3 : Int32) (s0 : Int32) (s1 : Int32) (s2 : Int32)  : ev (d + 1) 288 33 [.ref 46, .int l1, .int l2, .int l3] [.int s0, .int s1, .int s2] (S sl p I J) = evK (d + 1) 288 40 [.ref 46, .int l1, .int l2, .int l3] [.int l1, .int (s2 + (s1 * s0))] (den d 183 [.int l2] (S sl p I J)) := by
  refine (r_imul (dk D288 20 rfl)).trans ?_
  refine (r_iadd (dk D288 21 rfl)).trans ?_
  refine (r_iln (dk D288 22 rfl) rfl).trans ?_
  refine (r_iln (dk D288 23 rfl) rfl).trans ?_
  exact r_cs (dk D288 24 rfl) ow288 pn12_124 c12_124 mf183 (Nat.le_of_ble_eq_true rfl) rfl rfl (Nat.le_of_ble_eq_true rfl) (Nat.le_of_ble_eq_true rfl)
theorem E288_40 {d sl : Nat} {p : Nat → Nat} {I : Nat → Nat → Int32} {J : Nat → Nat → Int64} (l1 : Int32) (l2 : Int32) (l3 : Int32) (s0 : Int32) (s1 : Int32) (s2 : Int32)  : ev (d + 1) 288 40 [.ref 46, .int l1, .int l2, .int l3] [.int s0, .int s1, .int s2] (S sl p I J) = evK (d + 1) 288 49 [.ref 46, .int l1, .int l2, .int l3] [.int (I 46 25), .int (s1 * s0), .int s2] (den d 182 [.int l2] (S sl p I J)) := by
  refine (r_imul (dk D288 25 rfl)).trans ?_
  refine (r_aln (dk D288 26 rfl) rfl).trans ?_
  refine (r_getI (dk D288 27 rfl) ow288 q12_133 ob_46).trans ?_
  refine (r_iln (dk D288 28 rfl) rfl).trans ?_
  exact r_cs (dk D288 29 rfl) ow288 pn12_111 c12_111 mf182 (Nat.le_of_ble_eq_true rfl) rfl rfl (Nat.le_of_ble_eq_true rfl) (Nat.le_of_ble_eq_true rfl)
theorem E288_49 {d sl : Nat} {p : Nat → Nat} {I : Nat → Nat → Int32} {J : Nat → Nat → Int64} (l1 : Int32) (l2 : Int32) (l3 : Int32) (s0 : Int32) (s1 : Int32) (s2 : Int32) (s3 : Int32)  : ev d 288 49 [.ref 46, .int l1, .int l2, .int l3] [.int s0, .int s1, .int s2, .int s3] (S sl p I J) = (if s3 ≤ (s2 + (s1 * s0)) then ev d 288 13 [.ref 46, .int l1, .int l2, .int (l3 + 1)] [] (S sl p I J) else ev d 288 13 [.ref 46, .int l1, .int l3, .int (l3 + 1)] [] (S sl p I J)) := by
  refine (r_imul (dk D288 30 rfl)).trans ?_
  refine (r_iadd (dk D288 31 rfl)).trans ?_
  refine (r_le (dk D288 32 rfl) rfl).trans (ite2 ?_ ?_)
  · refine (r_iln (dk D288 35 rfl) rfl).trans ?_
    refine (r_isn (L' := [.ref 46, .int l1, .int l2, .int l3]) (dk D288 36 rfl) (Nat.le_of_ble_eq_true rfl) rfl).trans ?_
    refine (r_inc (L' := [.ref 46, .int l1, .int l2, .int (l3 + 1)]) (dk D288 37 rfl) rfl rfl ci1 (Nat.le_of_ble_eq_true rfl) rfl).trans ?_
    refine (r_goto (L' := [.ref 46, .int l1, .int l2, .int (l3 + 1)]) (dk D288 38 rfl) rfl nd288_13 rfl).trans ?_
    exact rfl
  · refine (r_iln (dk D288 33 rfl) rfl).trans ?_
    refine (r_goto (L' := [.ref 46, .int l1, .int l2, .int l3]) (dk D288 34 rfl) rfl nd288_59 rfl).trans ?_
    refine (r_isn (L' := [.ref 46, .int l1, .int l3, .int l3]) (dk D288 36 rfl) (Nat.le_of_ble_eq_true rfl) rfl).trans ?_
    refine (r_inc (L' := [.ref 46, .int l1, .int l3, .int (l3 + 1)]) (dk D288 37 rfl) rfl rfl ci1 (Nat.le_of_ble_eq_true rfl) rfl).trans ?_
    refine (r_goto (L' := [.ref 46, .int l1, .int l3, .int (l3 + 1)]) (dk D288 38 rfl) rfl nd288_13 rfl).trans ?_
    exact rfl
set_option maxRecDepth 20000 in
theorem D289 : dOK 289 [(0, .iload_n 3, 1), (1, .iconst 0, 1), (2, .iconst 4, 1), (3, .invokestatic 178, 3), (6, .ifCond .ne 9, 3), (9, .aload_n 0, 1), (10, .iconst 1, 1), (11, .invokevirtual 183, 3), (14, .ireturn, 1), (15, .aload_n 0, 1), (16, .invokevirtual 339, 3), (19, .aload_n 0, 1), (20, .iload_n 1, 1), (21, .iload_n 2, 1), (22, .invokevirtual 363, 3), (25, .ifCond .ne 9, 3), (28, .aload_n 0, 1), (29, .iconst 2, 1), (30, .invokevirtual 183, 3), (33, .ireturn, 1), (34, .aload_n 0, 1), (35, .iload_n 1, 1), (36, .iload_n 2, 1), (37, .invokevirtual 437, 3), (40, .ifCond .ne 9, 3), (43, .aload_n 0, 1), (44, .iconst 5, 1), (45, .invokevirtual 183, 3), (48, .ireturn, 1), (49, .iload_n 3, 1), (50, .tableswitch 66 0 3 #[30, 39, 48, 57], 30), (80, .aload_n 0, 1), (81, .aload_n 0, 1), (82, .invokevirtual 294, 3), (85, .invokevirtual 193, 3), (88, .ireturn, 1), (89, .aload_n 0, 1), (90, .aload_n 0, 1), (91, .invokevirtual 440, 3), (94, .invokevirtual 193, 3), (97, .ireturn, 1), (98, .aload_n 0, 1), (99, .aload_n 0, 1), (100, .getfield 127, 3), (103, .invokevirtual 193, 3), (106, .ireturn, 1), (107, .aload_n 0, 1), (108, .aload_n 0, 1), (109, .getfield 130, 3), (112, .invokevirtual 193, 3), (115, .ireturn, 1), (116, .aload_n 0, 1), (117, .aload_n 0, 1), (118, .getfield 133, 3), (121, .invokevirtual 193, 3), (124, .ireturn, 1)] = true := by decide +kernel
theorem E289_0 {d sl : Nat} {p : Nat → Nat} {I : Nat → Nat → Int32} {J : Nat → Nat → Int64} (a1 : Int32) (a2 : Int32) (a3 : Int32)  : den (d + 1) 289 [.ref 46, .int a1, .int a2, .int a3] (S sl p I J) = evK (d + 1) 289 6 [.ref 46, .int a1, .int a2, .int a3] [] (den d 181 [.int a3, .int 0, .int 4] (S sl p I J)) := by
  refine (show den (d + 1) 289 [.ref 46, .int a1, .int a2, .int a3] (S sl p I J) = ev (d + 1) 289 0 [.ref 46, .int a1, .int a2, .int a3] [] (S sl p I J) from rfl).trans ?_
  refine (r_iln (dk D289 0 rfl) rfl).trans ?_
  refine (r_ic (dk D289 1 rfl) ci0).trans ?_
  refine (r_ic (dk D289 2 rfl) ci4).trans ?_
  exact r_cs (dk D289 3 rfl) ow289 pn12_178 c12_178 mf181 (Nat.le_of_ble_eq_true rfl) rfl rfl (Nat.le_of_ble_eq_true rfl) (Nat.le_of_ble_eq_true rfl)
theorem E289_6 {d sl : Nat} {p : Nat → Nat} {I : Nat → Nat → Int32} {J : Nat → Nat → Int64} (l1 : Int32) (l2 : Int32) (l3 : Int32) (s0 : Int32)  : ev (d + 1) 289 6 [.ref 46, .int l1, .int l2, .int l3] [.int s0] (S sl p I J) = (if s0 = 0 then evK (d + 1) 289 14 [.ref 46, .int l1, .int l2, .int l3] [] (den d 178 [.ref 46, .int 1] (S sl p I J)) else evK (d + 1) 289 19 [.ref 46, .int l1, .int l2, .int l3] [] (den d 221 [.ref 46] (S sl p I J))) := by
  refine (r_ne0 (dk D289 4 rfl) rfl).trans (ite2 ?_ ?_)
  · refine (r_aln (dk D289 5 rfl) rfl).trans ?_
    refine (r_ic (dk D289 6 rfl) ci1).trans ?_
    exact r_cv (dk D289 7 rfl) ow289 c12_183 mf178 (Nat.le_of_ble_eq_true rfl) rfl rfl (Nat.le_of_ble_eq_true rfl) (Nat.le_of_ble_eq_true rfl) ob_46
  · refine (r_aln (dk D289 9 rfl) rfl).trans ?_
    exact r_cv (dk D289 10 rfl) ow289 c12_339 mf221 (Nat.le_of_ble_eq_true rfl) rfl rfl (Nat.le_of_ble_eq_true rfl) (Nat.le_of_ble_eq_true rfl) ob_46
theorem E289_14 {d sl : Nat} {p : Nat → Nat} {I : Nat → Nat → Int32} {J : Nat → Nat → Int64} (l1 : Int32) (l2 : Int32) (l3 : Int32) (s0 : Int32)  : ev d 289 14 [.ref 46, .int l1, .int l2, .int l3] [.int s0] (S sl p I J) = some (some (.int s0), (S sl p I J)) := by
  exact r_ret (dk D289 8 rfl) rt289
theorem E289_19 {d sl : Nat} {p : Nat → Nat} {I : Nat → Nat → Int32} {J : Nat → Nat → Int64} (l1 : Int32) (l2 : Int32) (l3 : Int32)  : ev (d + 1) 289 19 [.ref 46, .int l1, .int l2, .int l3] [] (S sl p I J) = evK (d + 1) 289 25 [.ref 46, .int l1, .int l2, .int l3] [] (den d 236 [.ref 46, .int l1, .int l2] (S sl p I J)) := by
  refine (r_aln (dk D289 11 rfl) rfl).trans ?_
  refine (r_iln (dk D289 12 rfl) rfl).trans ?_
  refine (r_iln (dk D289 13 rfl) rfl).trans ?_
  exact r_cv (dk D289 14 rfl) ow289 c12_363 mf236 (Nat.le_of_ble_eq_true rfl) rfl rfl (Nat.le_of_ble_eq_true rfl) (Nat.le_of_ble_eq_true rfl) ob_46
theorem E289_25 {d sl : Nat} {p : Nat → Nat} {I : Nat → Nat → Int32} {J : Nat → Nat → Int64} (l1 : Int32) (l2 : Int32) (l3 : Int32) (s0 : Int32)  : ev (d + 1) 289 25 [.ref 46, .int l1, .int l2, .int l3] [.int s0] (S sl p I J) = (if s0 = 0 then evK (d + 1) 289 33 [.ref 46, .int l1, .int l2, .int l3] [] (den d 178 [.ref 46, .int 2] (S sl p I J)) else evK (d + 1) 289 40 [.ref 46, .int l1, .int l2, .int l3] [] (den d 287 [.ref 46, .int l1, .int l2] (S sl p I J))) := by
  refine (r_ne0 (dk D289 15 rfl) rfl).trans (ite2 ?_ ?_)
  · refine (r_aln (dk D289 16 rfl) rfl).trans ?_
    refine (r_ic (dk D289 17 rfl) ci2).trans ?_
    exact r_cv (dk D289 18 rfl) ow289 c12_183 mf178 (Nat.le_of_ble_eq_true rfl) rfl rfl (Nat.le_of_ble_eq_true rfl) (Nat.le_of_ble_eq_true rfl) ob_46
  · refine (r_aln (dk D289 20 rfl) rfl).trans ?_
    refine (r_iln (dk D289 21 rfl) rfl).trans ?_
    refine (r_iln (dk D289 22 rfl) rfl).trans ?_
    exact r_cv (dk D289 23 rfl) ow289 c12_437 mf287 (Nat.le_of_ble_eq_true rfl) rfl rfl (Nat.le_of_ble_eq_true rfl) (Nat.le_of_ble_eq_true rfl) ob_46
theorem E289_33 {d sl : Nat} {p : Nat → Nat} {I : Nat → Nat → Int32} {J : Nat → Nat → Int64} (l1 : Int32) (l2 : Int32) (l3 : Int32) (s0 : Int32)  : ev d 289 33 [.ref 46, .int l1, .int l2, .int l3] [.int s0] (S sl p I J) = some (some (.int s0), (S sl p I J)) := by
  exact r_ret (dk D289 19 rfl) rt289
theorem E289_40 {d sl : Nat} {p : Nat → Nat} {I : Nat → Nat → Int32} {J : Nat → Nat → Int64} (l1 : Int32) (l2 : Int32) (l3 : Int32) (s0 : Int32)  : ev (d + 1) 289 40 [.ref 46, .int l1, .int l2, .int l3] [.int s0] (S sl p I J) = (if s0 = 0 then evK (d + 1) 289 48 [.ref 46, .int l1, .int l2, .int l3] [] (den d 178 [.ref 46, .int 5] (S sl p I J)) else (if l3 = 0 then evK (d + 1) 289 85 [.ref 46, .int l1, .int l2, .int l3] [.ref 46] (den d 223 [.ref 46] (S sl p I J)) else (if l3 = 1 then evK (d + 1) 289 94 [.ref 46, .int l1, .int l2, .int l3] [.ref 46] (den d 288 [.ref 46] (S sl p I J)) else (if l3 = 2 then evK (d + 1) 289 106 [.ref 46, .int l1, .int l2, .int l3] [] (den d 179 [.ref 46, .int (I 46 23)] (S sl p I J)) else (if l3 = 3 then evK (d + 1) 289 115 [.ref 46, .int l1, .int l2, .int l3] [] (den d 179 [.ref 46, .int (I 46 24)] (S sl p I J)) else evK (d + 1) 289 124 [.ref 46, .int l1, .int l2, .int l3] [] (den d 179 [.ref 46, .int (I 46 25)] (S sl p I J))))))) := by
  refine (r_ne0 (dk D289 24 rfl) rfl).trans (ite2 ?_ ?_)
  · refine (r_aln (dk D289 25 rfl) rfl).trans ?_
    refine (r_ic (dk D289 26 rfl) ci5).trans ?_
    exact r_cv (dk D289 27 rfl) ow289 c12_183 mf178 (Nat.le_of_ble_eq_true rfl) rfl rfl (Nat.le_of_ble_eq_true rfl) (Nat.le_of_ble_eq_true rfl) ob_46
  · refine (r_iln (dk D289 29 rfl) rfl).trans ?_
    by_cases hs0 : l3 = 0
    · rw [if_pos hs0]
      refine (r_sw (t := 80) (dk D289 30 rfl) (by rw [hs0]; rfl)).trans ?_
      refine (r_aln (dk D289 31 rfl) rfl).trans ?_
      refine (r_aln (dk D289 32 rfl) rfl).trans ?_
      exact r_cv (dk D289 33 rfl) ow289 c12_294 mf223 (Nat.le_of_ble_eq_true rfl) rfl rfl (Nat.le_of_ble_eq_true rfl) (Nat.le_of_ble_eq_true rfl) ob_46
    rw [if_neg hs0]
    by_cases hs1 : l3 = 1
    · rw [if_pos hs1]
      refine (r_sw (t := 89) (dk D289 30 rfl) (by rw [hs1]; rfl)).trans ?_
      refine (r_aln (dk D289 36 rfl) rfl).trans ?_
      refine (r_aln (dk D289 37 rfl) rfl).trans ?_
      exact r_cv (dk D289 38 rfl) ow289 c12_440 mf288 (Nat.le_of_ble_eq_true rfl) rfl rfl (Nat.le_of_ble_eq_true rfl) (Nat.le_of_ble_eq_true rfl) ob_46
    rw [if_neg hs1]
    by_cases hs2 : l3 = 2
    · rw [if_pos hs2]
      refine (r_sw (t := 98) (dk D289 30 rfl) (by rw [hs2]; rfl)).trans ?_
      refine (r_aln (dk D289 41 rfl) rfl).trans ?_
      refine (r_aln (dk D289 42 rfl) rfl).trans ?_
      refine (r_getI (dk D289 43 rfl) ow289 q12_127 ob_46).trans ?_
      exact r_cv (dk D289 44 rfl) ow289 c12_193 mf179 (Nat.le_of_ble_eq_true rfl) rfl rfl (Nat.le_of_ble_eq_true rfl) (Nat.le_of_ble_eq_true rfl) ob_46
    rw [if_neg hs2]
    by_cases hs3 : l3 = 3
    · rw [if_pos hs3]
      refine (r_sw (t := 107) (dk D289 30 rfl) (by rw [hs3]; rfl)).trans ?_
      refine (r_aln (dk D289 46 rfl) rfl).trans ?_
      refine (r_aln (dk D289 47 rfl) rfl).trans ?_
      refine (r_getI (dk D289 48 rfl) ow289 q12_130 ob_46).trans ?_
      exact r_cv (dk D289 49 rfl) ow289 c12_193 mf179 (Nat.le_of_ble_eq_true rfl) rfl rfl (Nat.le_of_ble_eq_true rfl) (Nat.le_of_ble_eq_true rfl) ob_46
    rw [if_neg hs3]
    refine (r_swd (t := 116) (dk D289 30 rfl) (swd_4 hs0 hs1 hs2 hs3) rfl).trans ?_
    refine (r_aln (dk D289 51 rfl) rfl).trans ?_
    refine (r_aln (dk D289 52 rfl) rfl).trans ?_
    refine (r_getI (dk D289 53 rfl) ow289 q12_133 ob_46).trans ?_
    exact r_cv (dk D289 54 rfl) ow289 c12_193 mf179 (Nat.le_of_ble_eq_true rfl) rfl rfl (Nat.le_of_ble_eq_true rfl) (Nat.le_of_ble_eq_true rfl) ob_46
theorem E289_48 {d sl : Nat} {p : Nat → Nat} {I : Nat → Nat → Int32} {J : Nat → Nat → Int64} (l1 : Int32) (l2 : Int32) (l3 : Int32) (s0 : Int32)  : ev d 289 48 [.ref 46, .int l1, .int l2, .int l3] [.int s0] (S sl p I J) = some (some (.int s0), (S sl p I J)) := by
  exact r_ret (dk D289 28 rfl) rt289
theorem E289_85 {d sl : Nat} {p : Nat → Nat} {I : Nat → Nat → Int32} {J : Nat → Nat → Int64} (l1 : Int32) (l2 : Int32) (l3 : Int32) (s0 : Int32)  : ev (d + 1) 289 85 [.ref 46, .int l1, .int l2, .int l3] [.int s0, .ref 46] (S sl p I J) = evK (d + 1) 289 88 [.ref 46, .int l1, .int l2, .int l3] [] (den d 179 [.ref 46, .int s0] (S sl p I J)) := by
  exact r_cv (dk D289 34 rfl) ow289 c12_193 mf179 (Nat.le_of_ble_eq_true rfl) rfl rfl (Nat.le_of_ble_eq_true rfl) (Nat.le_of_ble_eq_true rfl) ob_46
theorem E289_88 {d sl : Nat} {p : Nat → Nat} {I : Nat → Nat → Int32} {J : Nat → Nat → Int64} (l1 : Int32) (l2 : Int32) (l3 : Int32) (s0 : Int32)  : ev d 289 88 [.ref 46, .int l1, .int l2, .int l3] [.int s0] (S sl p I J) = some (some (.int s0), (S sl p I J)) := by
  exact r_ret (dk D289 35 rfl) rt289
theorem E289_94 {d sl : Nat} {p : Nat → Nat} {I : Nat → Nat → Int32} {J : Nat → Nat → Int64} (l1 : Int32) (l2 : Int32) (l3 : Int32) (s0 : Int32)  : ev (d + 1) 289 94 [.ref 46, .int l1, .int l2, .int l3] [.int s0, .ref 46] (S sl p I J) = evK (d + 1) 289 97 [.ref 46, .int l1, .int l2, .int l3] [] (den d 179 [.ref 46, .int s0] (S sl p I J)) := by
  exact r_cv (dk D289 39 rfl) ow289 c12_193 mf179 (Nat.le_of_ble_eq_true rfl) rfl rfl (Nat.le_of_ble_eq_true rfl) (Nat.le_of_ble_eq_true rfl) ob_46
theorem E289_97 {d sl : Nat} {p : Nat → Nat} {I : Nat → Nat → Int32} {J : Nat → Nat → Int64} (l1 : Int32) (l2 : Int32) (l3 : Int32) (s0 : Int32)  : ev d 289 97 [.ref 46, .int l1, .int l2, .int l3] [.int s0] (S sl p I J) = some (some (.int s0), (S sl p I J)) := by
  exact r_ret (dk D289 40 rfl) rt289
theorem E289_106 {d sl : Nat} {p : Nat → Nat} {I : Nat → Nat → Int32} {J : Nat → Nat → Int64} (l1 : Int32) (l2 : Int32) (l3 : Int32) (s0 : Int32)  : ev d 289 106 [.ref 46, .int l1, .int l2, .int l3] [.int s0] (S sl p I J) = some (some (.int s0), (S sl p I J)) := by
  exact r_ret (dk D289 45 rfl) rt289
theorem E289_115 {d sl : Nat} {p : Nat → Nat} {I : Nat → Nat → Int32} {J : Nat → Nat → Int64} (l1 : Int32) (l2 : Int32) (l3 : Int32) (s0 : Int32)  : ev d 289 115 [.ref 46, .int l1, .int l2, .int l3] [.int s0] (S sl p I J) = some (some (.int s0), (S sl p I J)) := by
  exact r_ret (dk D289 50 rfl) rt289
theorem E289_124 {d sl : Nat} {p : Nat → Nat} {I : Nat → Nat → Int32} {J : Nat → Nat → Int64} (l1 : Int32) (l2 : Int32) (l3 : Int32) (s0 : Int32)  : ev d 289 124 [.ref 46, .int l1, .int l2, .int l3] [.int s0] (S sl p I J) = some (some (.int s0), (S sl p I J)) := by
  exact r_ret (dk D289 55 rfl) rt289
set_option maxRecDepth 20000 in
theorem D290 : dOK 290 [(0, .iload_n 0, 1), (1, .iload_n 1, 1), (2, .isub, 1), (3, .invokestatic 443, 3), (6, .sipush 360, 3), (9, .irem, 1), (10, .istore_n 2, 1), (11, .iload_n 2, 1), (12, .sipush 360, 3), (15, .iload_n 2, 1), (16, .isub, 1), (17, .invokestatic 236, 3), (20, .ireturn, 1)] = true := by decide +kernel
theorem E290_0 {d sl : Nat} {p : Nat → Nat} {I : Nat → Nat → Int32} {J : Nat → Nat → Int64} (a0 : Int32) (a1 : Int32)  : den (d + 1) 290 [.int a0, .int a1] (S sl p I J) = some (some (.int (if (360 - ((if 0 ≤ (a0 - a1) then (a0 - a1) else 0 - (a0 - a1)) - (if 0 ≤ (a0 - a1) then (a0 - a1) else 0 - (a0 - a1)) / 360 * 360)) < ((if 0 ≤ (a0 - a1) then (a0 - a1) else 0 - (a0 - a1)) - (if 0 ≤ (a0 - a1) then (a0 - a1) else 0 - (a0 - a1)) / 360 * 360) then (360 - ((if 0 ≤ (a0 - a1) then (a0 - a1) else 0 - (a0 - a1)) - (if 0 ≤ (a0 - a1) then (a0 - a1) else 0 - (a0 - a1)) / 360 * 360)) else ((if 0 ≤ (a0 - a1) then (a0 - a1) else 0 - (a0 - a1)) - (if 0 ≤ (a0 - a1) then (a0 - a1) else 0 - (a0 - a1)) / 360 * 360))), (S sl p I J)) := by
  refine (show den (d + 1) 290 [.int a0, .int a1] (S sl p I J) = ev (d + 1) 290 0 [.int a0, .int a1, .retAddr 0] [] (S sl p I J) from rfl).trans ?_
  refine (r_iln (dk D290 0 rfl) rfl).trans ?_
  refine (r_iln (dk D290 1 rfl) rfl).trans ?_
  refine (r_isub (dk D290 2 rfl)).trans ?_
  refine (r_prm (st' := [.int (if 0 ≤ (a0 - a1) then (a0 - a1) else 0 - (a0 - a1))]) (dk D290 3 rfl) ow290 p12_443 (Nat.le_of_ble_eq_true rfl) rfl).trans ?_
  refine (r_sp (dk D290 4 rfl) cs360).trans ?_
  refine (r_irem (dk D290 5 rfl) (by decide)).trans ?_
  refine (r_isn (L' := [.int a0, .int a1, .int ((if 0 ≤ (a0 - a1) then (a0 - a1) else 0 - (a0 - a1)) - (if 0 ≤ (a0 - a1) then (a0 - a1) else 0 - (a0 - a1)) / 360 * 360)]) (dk D290 6 rfl) (Nat.le_of_ble_eq_true rfl) rfl).trans ?_
  refine (r_iln (dk D290 7 rfl) rfl).trans ?_
  refine (r_sp (dk D290 8 rfl) cs360).trans ?_
  refine (r_iln (dk D290 9 rfl) rfl).trans ?_
  refine (r_isub (dk D290 10 rfl)).trans ?_
  refine (r_prm (st' := [.int (if (360 - ((if 0 ≤ (a0 - a1) then (a0 - a1) else 0 - (a0 - a1)) - (if 0 ≤ (a0 - a1) then (a0 - a1) else 0 - (a0 - a1)) / 360 * 360)) < ((if 0 ≤ (a0 - a1) then (a0 - a1) else 0 - (a0 - a1)) - (if 0 ≤ (a0 - a1) then (a0 - a1) else 0 - (a0 - a1)) / 360 * 360) then (360 - ((if 0 ≤ (a0 - a1) then (a0 - a1) else 0 - (a0 - a1)) - (if 0 ≤ (a0 - a1) then (a0 - a1) else 0 - (a0 - a1)) / 360 * 360)) else ((if 0 ≤ (a0 - a1) then (a0 - a1) else 0 - (a0 - a1)) - (if 0 ≤ (a0 - a1) then (a0 - a1) else 0 - (a0 - a1)) / 360 * 360))]) (dk D290 11 rfl) ow290 p12_236 (Nat.le_of_ble_eq_true rfl) rfl).trans ?_
  exact r_ret (dk D290 12 rfl) rt290
set_option maxRecDepth 20000 in
theorem D291 : dOK 291 [(0, .iconst 0, 1), (1, .istore_n 1, 1), (2, .iconst 0, 1), (3, .istore_n 2, 1), (4, .iload_n 2, 1), (5, .bipush 30, 2), (7, .if_icmp .ge 17, 3), (10, .iload_n 1, 1), (11, .iload_n 0, 1), (12, .iload_n 2, 1), (13, .ishr, 1), (14, .iconst 1, 1), (15, .iand, 1), (16, .iadd, 1), (17, .istore_n 1, 1), (18, .iinc 2 1, 3), (21, .goto (-17), 3), (24, .iload_n 1, 1), (25, .ireturn, 1)] = true := by decide +kernel
theorem E291_0 {d sl : Nat} {p : Nat → Nat} {I : Nat → Nat → Int32} {J : Nat → Nat → Int64} (a0 : Int32)  : den d 291 [.int a0] (S sl p I J) = ev d 291 4 [.int a0, .int 0, .int 0] [] (S sl p I J) := by
  refine (show den d 291 [.int a0] (S sl p I J) = ev d 291 0 [.int a0, .retAddr 0, .retAddr 0] [] (S sl p I J) from rfl).trans ?_
  refine (r_ic (dk D291 0 rfl) ci0).trans ?_
  refine (r_isn (L' := [.int a0, .int 0, .retAddr 0]) (dk D291 1 rfl) (Nat.le_of_ble_eq_true rfl) rfl).trans ?_
  refine (r_ic (dk D291 2 rfl) ci0).trans ?_
  refine (r_isn (L' := [.int a0, .int 0, .int 0]) (dk D291 3 rfl) (Nat.le_of_ble_eq_true rfl) rfl).trans ?_
  exact rfl
theorem E291_4 {d sl : Nat} {p : Nat → Nat} {I : Nat → Nat → Int32} {J : Nat → Nat → Int64} (l0 : Int32) (l1 : Int32) (l2 : Int32)  : ev d 291 4 [.int l0, .int l1, .int l2] [] (S sl p I J) = (if l2 < 30 then ev d 291 4 [.int l0, .int (l1 + ((l0 >>> (l2 &&& 31)) &&& 1)), .int (l2 + 1)] [] (S sl p I J) else some (some (.int l1), (S sl p I J))) := by
  refine (r_iln (dk D291 4 rfl) rfl).trans ?_
  refine (r_bp (dk D291 5 rfl) cb30).trans ?_
  refine (r_ge (dk D291 6 rfl) rfl).trans (ite2 ?_ ?_)
  · refine (r_iln (dk D291 7 rfl) rfl).trans ?_
    refine (r_iln (dk D291 8 rfl) rfl).trans ?_
    refine (r_iln (dk D291 9 rfl) rfl).trans ?_
    refine (r_ishr (dk D291 10 rfl)).trans ?_
    refine (r_ic (dk D291 11 rfl) ci1).trans ?_
    refine (r_iand (dk D291 12 rfl)).trans ?_
    refine (r_iadd (dk D291 13 rfl)).trans ?_
    refine (r_isn (L' := [.int l0, .int (l1 + ((l0 >>> (l2 &&& 31)) &&& 1)), .int l2]) (dk D291 14 rfl) (Nat.le_of_ble_eq_true rfl) rfl).trans ?_
    refine (r_inc (L' := [.int l0, .int (l1 + ((l0 >>> (l2 &&& 31)) &&& 1)), .int (l2 + 1)]) (dk D291 15 rfl) rfl rfl ci1 (Nat.le_of_ble_eq_true rfl) rfl).trans ?_
    refine (r_goto (L' := [.int l0, .int (l1 + ((l0 >>> (l2 &&& 31)) &&& 1)), .int (l2 + 1)]) (dk D291 16 rfl) rfl nd291_4 rfl).trans ?_
    exact rfl
  · refine (r_iln (dk D291 17 rfl) rfl).trans ?_
    exact r_ret (dk D291 18 rfl) rt291
set_option maxRecDepth 20000 in
theorem D292 : dOK 292 [(0, .aload_n 0, 1), (1, .invokevirtual 339, 3), (4, .iconst 0, 1), (5, .istore_n 1, 1), (6, .iload_n 1, 1), (7, .aload_n 0, 1), (8, .getfield 244, 3), (11, .if_icmp .ge 34, 3), (14, .aload_n 0, 1), (15, .iload_n 1, 1), (16, .invokevirtual 342, 3), (19, .aload_n 0, 1), (20, .getfield 96, 3), (23, .iload_n 1, 1), (24, .aload_n 0, 1), (25, .invokevirtual 348, 3), (28, .iastore, 1), (29, .aload_n 0, 1), (30, .getfield 99, 3), (33, .iload_n 1, 1), (34, .aload_n 0, 1), (35, .invokevirtual 300, 3), (38, .iastore, 1), (39, .iinc 1 1, 3), (42, .goto (-36), 3), (45, .iconst 0, 1), (46, .istore_n 1, 1), (47, .iload_n 1, 1), (48, .aload_n 0, 1), (49, .getfield 244, 3), (52, .if_icmp .ge 80, 3), (55, .iload_n 1, 1), (56, .iconst 1, 1), (57, .iadd, 1), (58, .istore_n 2, 1), (59, .iload_n 2, 1), (60, .aload_n 0, 1), (61, .getfield 244, 3), (64, .if_icmp .ge 62, 3), (67, .aload_n 0, 1), (68, .iload_n 1, 1), (69, .iload_n 2, 1), (70, .invokevirtual 437, 3), (73, .istore_n 3, 1), (74, .aload_n 0, 1), (75, .getfield 102, 3), (78, .bipush 30, 2), (80, .iload_n 1, 1), (81, .imul, 1), (82, .iload_n 2, 1), (83, .iadd, 1), (84, .iload_n 3, 1), (85, .ifCond .eq 10, 3), (88, .aload_n 0, 1), (89, .invokevirtual 294, 3), (92, .goto 4, 3), (95, .iconst (-1), 1), (96, .iastore, 1), (97, .aload_n 0, 1), (98, .getfield 105, 3), (101, .bipush 30, 2), (103, .iload_n 1, 1), (104, .imul, 1), (105, .iload_n 2, 1), (106, .iadd, 1), (107, .iload_n 3, 1), (108, .ifCond .eq 10, 3), (111, .aload_n 0, 1), (112, .invokevirtual 440, 3), (115, .goto 4, 3), (118, .iconst (-1), 1), (119, .iastore, 1), (120, .iinc 2 1, 3), (123, .goto (-64), 3), (126, .iinc 1 1, 3), (129, .goto (-82), 3), (132, .return_, 1)] = true := by decide +kernel
theorem E292_0 {d sl : Nat} {p : Nat → Nat} {I : Nat → Nat → Int32} {J : Nat → Nat → Int64}   : den (d + 1) 292 [.ref 46] (S sl p I J) = evK (d + 1) 292 4 [.ref 46, .retAddr 0, .retAddr 0, .retAddr 0] [] (den d 221 [.ref 46] (S sl p I J)) := by
  refine (show den (d + 1) 292 [.ref 46] (S sl p I J) = ev (d + 1) 292 0 [.ref 46, .retAddr 0, .retAddr 0, .retAddr 0] [] (S sl p I J) from rfl).trans ?_
  refine (r_aln (dk D292 0 rfl) rfl).trans ?_
  exact r_cv (dk D292 1 rfl) ow292 c12_339 mf221 (Nat.le_of_ble_eq_true rfl) rfl rfl (Nat.le_of_ble_eq_true rfl) (Nat.le_of_ble_eq_true rfl) ob_46
theorem E292_4 {d sl : Nat} {p : Nat → Nat} {I : Nat → Nat → Int32} {J : Nat → Nat → Int64}   : ev d 292 4 [.ref 46, .retAddr 0, .retAddr 0, .retAddr 0] [] (S sl p I J) = ev d 292 6 [.ref 46, .int 0, .retAddr 0, .retAddr 0] [] (S sl p I J) := by
  refine (r_ic (dk D292 2 rfl) ci0).trans ?_
  refine (r_isn (L' := [.ref 46, .int 0, .retAddr 0, .retAddr 0]) (dk D292 3 rfl) (Nat.le_of_ble_eq_true rfl) rfl).trans ?_
  exact rfl
theorem E292_6 {d sl : Nat} {p : Nat → Nat} {I : Nat → Nat → Int32} {J : Nat → Nat → Int64} (l1 : Int32)  : ev (d + 1) 292 6 [.ref 46, .int l1, .retAddr 0, .retAddr 0] [] (S sl p I J) = (if l1 < (I 46 31) then evK (d + 1) 292 19 [.ref 46, .int l1, .retAddr 0, .retAddr 0] [] (den d 222 [.ref 46, .int l1] (S sl p I J)) else ev (d + 1) 292 47 [.ref 46, .int 0, .retAddr 0, .retAddr 0] [] (S sl p I J)) := by
  refine (r_iln (dk D292 4 rfl) rfl).trans ?_
  refine (r_aln (dk D292 5 rfl) rfl).trans ?_
  refine (r_getI (dk D292 6 rfl) ow292 q12_244 ob_46).trans ?_
  refine (r_ge (dk D292 7 rfl) rfl).trans (ite2 ?_ ?_)
  · refine (r_aln (dk D292 8 rfl) rfl).trans ?_
    refine (r_iln (dk D292 9 rfl) rfl).trans ?_
    exact r_cv (dk D292 10 rfl) ow292 c12_342 mf222 (Nat.le_of_ble_eq_true rfl) rfl rfl (Nat.le_of_ble_eq_true rfl) (Nat.le_of_ble_eq_true rfl) ob_46
  · refine (r_ic (dk D292 25 rfl) ci0).trans ?_
    refine (r_isn (L' := [.ref 46, .int 0, .retAddr 0, .retAddr 0]) (dk D292 26 rfl) (Nat.le_of_ble_eq_true rfl) rfl).trans ?_
    exact rfl
theorem E292_19 {d sl : Nat} {p : Nat → Nat} {I : Nat → Nat → Int32} {J : Nat → Nat → Int64} (l1 : Int32)  : ev (d + 1) 292 19 [.ref 46, .int l1, .retAddr 0, .retAddr 0] [] (S sl p I J) = evK (d + 1) 292 28 [.ref 46, .int l1, .retAddr 0, .retAddr 0] [.int l1, .ref 69] (den d 226 [.ref 46] (S sl p I J)) := by
  refine (r_aln (dk D292 11 rfl) rfl).trans ?_
  refine (r_getR (dk D292 12 rfl) ow292 q12_96 ob_46 rfl).trans ?_
  refine (r_iln (dk D292 13 rfl) rfl).trans ?_
  refine (r_aln (dk D292 14 rfl) rfl).trans ?_
  exact r_cv (dk D292 15 rfl) ow292 c12_348 mf226 (Nat.le_of_ble_eq_true rfl) rfl rfl (Nat.le_of_ble_eq_true rfl) (Nat.le_of_ble_eq_true rfl) ob_46
theorem E292_28 {d sl : Nat} {p : Nat → Nat} {I : Nat → Nat → Int32} {J : Nat → Nat → Int64} (l1 : Int32) (s0 : Int32) (s1 : Int32)  : ev (d + 1) 292 28 [.ref 46, .int l1, .retAddr 0, .retAddr 0] [.int s0, .int s1, .ref 69] (S sl p I J) = ck (ixb 30 s1) (evK (d + 1) 292 38 [.ref 46, .int l1, .retAddr 0, .retAddr 0] [.int l1, .ref 70] (den d 225 [.ref 46] (S sl p (up2 I 69 (Int32.toNatClampNeg s1) s0) J))) := by
  refine (r_ist (dk D292 16 rfl) ar_69).trans (ck3 fun g1 => ?_)
  refine (r_aln (dk D292 17 rfl) rfl).trans ?_
  refine (r_getR (dk D292 18 rfl) ow292 q12_99 ob_46 rfl).trans ?_
  refine (r_iln (dk D292 19 rfl) rfl).trans ?_
  refine (r_aln (dk D292 20 rfl) rfl).trans ?_
  exact r_cv (dk D292 21 rfl) ow292 c12_300 mf225 (Nat.le_of_ble_eq_true rfl) rfl rfl (Nat.le_of_ble_eq_true rfl) (Nat.le_of_ble_eq_true rfl) ob_46
theorem E292_38 {d sl : Nat} {p : Nat → Nat} {I : Nat → Nat → Int32} {J : Nat → Nat → Int64} (l1 : Int32) (s0 : Int32) (s1 : Int32)  : ev d 292 38 [.ref 46, .int l1, .retAddr 0, .retAddr 0] [.int s0, .int s1, .ref 70] (S sl p I J) = ck (ixb 30 s1) (ev d 292 6 [.ref 46, .int (l1 + 1), .retAddr 0, .retAddr 0] [] (S sl p (up2 I 70 (Int32.toNatClampNeg s1) s0) J)) := by
  refine (r_ist (dk D292 22 rfl) ar_70).trans (ck3 fun g1 => ?_)
  refine (r_inc (L' := [.ref 46, .int (l1 + 1), .retAddr 0, .retAddr 0]) (dk D292 23 rfl) rfl rfl ci1 (Nat.le_of_ble_eq_true rfl) rfl).trans ?_
  refine (r_goto (L' := [.ref 46, .int (l1 + 1), .retAddr 0, .retAddr 0]) (dk D292 24 rfl) rfl nd292_6 rfl).trans ?_
  exact rfl
theorem E292_47 {d sl : Nat} {p : Nat → Nat} {I : Nat → Nat → Int32} {J : Nat → Nat → Int64} (l1 : Int32)  : ev d 292 47 [.ref 46, .int l1, .retAddr 0, .retAddr 0] [] (S sl p I J) = (if l1 < (I 46 31) then ev d 292 59 [.ref 46, .int l1, .int (l1 + 1), .retAddr 0] [] (S sl p I J) else some (none, (S sl p I J))) := by
  refine (r_iln (dk D292 27 rfl) rfl).trans ?_
  refine (r_aln (dk D292 28 rfl) rfl).trans ?_
  refine (r_getI (dk D292 29 rfl) ow292 q12_244 ob_46).trans ?_
  refine (r_ge (dk D292 30 rfl) rfl).trans (ite2 ?_ ?_)
  · refine (r_iln (dk D292 31 rfl) rfl).trans ?_
    refine (r_ic (dk D292 32 rfl) ci1).trans ?_
    refine (r_iadd (dk D292 33 rfl)).trans ?_
    refine (r_isn (L' := [.ref 46, .int l1, .int (l1 + 1), .retAddr 0]) (dk D292 34 rfl) (Nat.le_of_ble_eq_true rfl) rfl).trans ?_
    exact rfl
  · exact r_rev (dk D292 76 rfl) rt292
theorem E292_59 {d sl : Nat} {p : Nat → Nat} {I : Nat → Nat → Int32} {J : Nat → Nat → Int64} (l1 : Int32) (l2 : Int32)  : ev (d + 1) 292 59 [.ref 46, .int l1, .int l2, .retAddr 0] [] (S sl p I J) = (if l2 < (I 46 31) then evK (d + 1) 292 73 [.ref 46, .int l1, .int l2, .retAddr 0] [] (den d 287 [.ref 46, .int l1, .int l2] (S sl p I J)) else ev (d + 1) 292 47 [.ref 46, .int (l1 + 1), .retAddr 0, .retAddr 0] [] (S sl p I J)) := by
  refine (r_iln (dk D292 35 rfl) rfl).trans ?_
  refine (r_aln (dk D292 36 rfl) rfl).trans ?_
  refine (r_getI (dk D292 37 rfl) ow292 q12_244 ob_46).trans ?_
  refine (r_ge (dk D292 38 rfl) rfl).trans (ite2 ?_ ?_)
  · refine (r_aln (dk D292 39 rfl) rfl).trans ?_
    refine (r_iln (dk D292 40 rfl) rfl).trans ?_
    refine (r_iln (dk D292 41 rfl) rfl).trans ?_
    exact r_cv (dk D292 42 rfl) ow292 c12_437 mf287 (Nat.le_of_ble_eq_true rfl) rfl rfl (Nat.le_of_ble_eq_true rfl) (Nat.le_of_ble_eq_true rfl) ob_46
  · refine (r_inc (L' := [.ref 46, .int (l1 + 1), .int l2, .retAddr 0]) (dk D292 74 rfl) rfl rfl ci1 (Nat.le_of_ble_eq_true rfl) rfl).trans ?_
    refine (r_goto (L' := [.ref 46, .int (l1 + 1), .retAddr 0, .retAddr 0]) (dk D292 75 rfl) rfl nd292_47 rfl).trans ?_
    exact rfl
theorem E292_73 {d sl : Nat} {p : Nat → Nat} {I : Nat → Nat → Int32} {J : Nat → Nat → Int64} (l1 : Int32) (l2 : Int32) (s0 : Int32)  : ev (d + 1) 292 73 [.ref 46, .int l1, .int l2, .retAddr 0] [.int s0] (S sl p I J) = (if s0 = 0 then ev (d + 1) 292 96 [.ref 46, .int l1, .int l2, .int s0] [.int (-1), .int ((30 * l1) + l2), .ref 71] (S sl p I J) else evK (d + 1) 292 92 [.ref 46, .int l1, .int l2, .int s0] [.int ((30 * l1) + l2), .ref 71] (den d 223 [.ref 46] (S sl p I J))) := by
  refine (r_isn (L' := [.ref 46, .int l1, .int l2, .int s0]) (dk D292 43 rfl) (Nat.le_of_ble_eq_true rfl) rfl).trans ?_
  refine (r_aln (dk D292 44 rfl) rfl).trans ?_
  refine (r_getR (dk D292 45 rfl) ow292 q12_102 ob_46 rfl).trans ?_
  refine (r_bp (dk D292 46 rfl) cb30).trans ?_
  refine (r_iln (dk D292 47 rfl) rfl).trans ?_
  refine (r_imul (dk D292 48 rfl)).trans ?_
  refine (r_iln (dk D292 49 rfl) rfl).trans ?_
  refine (r_iadd (dk D292 50 rfl)).trans ?_
  refine (r_iln (dk D292 51 rfl) rfl).trans ?_
  refine (r_eq0 (dk D292 52 rfl) rfl).trans (ite2 ?_ ?_)
  · refine (r_ic (dk D292 56 rfl) cim1).trans ?_
    exact rfl
  · refine (r_aln (dk D292 53 rfl) rfl).trans ?_
    exact r_cv (dk D292 54 rfl) ow292 c12_294 mf223 (Nat.le_of_ble_eq_true rfl) rfl rfl (Nat.le_of_ble_eq_true rfl) (Nat.le_of_ble_eq_true rfl) ob_46
theorem E292_92 {d sl : Nat} {p : Nat → Nat} {I : Nat → Nat → Int32} {J : Nat → Nat → Int64} (l1 : Int32) (l2 : Int32) (l3 : Int32) (s0 : Int32) (s1 : Int32)  : ev d 292 92 [.ref 46, .int l1, .int l2, .int l3] [.int s0, .int s1, .ref 71] (S sl p I J) = ev d 292 96 [.ref 46, .int l1, .int l2, .int l3] [.int s0, .int s1, .ref 71] (S sl p I J) := by
  refine (r_goto (L' := [.ref 46, .int l1, .int l2, .int l3]) (dk D292 55 rfl) rfl nd292_96 rfl).trans ?_
  exact rfl
theorem E292_96 {d sl : Nat} {p : Nat → Nat} {I : Nat → Nat → Int32} {J : Nat → Nat → Int64} (l1 : Int32) (l2 : Int32) (l3 : Int32) (s0 : Int32) (s1 : Int32)  : ev (d + 1) 292 96 [.ref 46, .int l1, .int l2, .int l3] [.int s0, .int s1, .ref 71] (S sl p I J) = ck (ixb 900 s1) ((if l3 = 0 then ck (ixb 900 ((30 * l1) + l2)) (ev (d + 1) 292 59 [.ref 46, .int l1, .int (l2 + 1), .retAddr 0] [] (S sl p (up2 (up2 I 71 (Int32.toNatClampNeg s1) s0) 72 (Int32.toNatClampNeg ((30 * l1) + l2)) (-1)) J)) else evK (d + 1) 292 115 [.ref 46, .int l1, .int l2, .int l3] [.int ((30 * l1) + l2), .ref 72] (den d 288 [.ref 46] (S sl p (up2 I 71 (Int32.toNatClampNeg s1) s0) J)))) := by
  refine (r_ist (dk D292 57 rfl) ar_71).trans (ck3 fun g1 => ?_)
  refine (r_aln (dk D292 58 rfl) rfl).trans ?_
  refine (r_getR (dk D292 59 rfl) ow292 q12_105 ob_46 rfl).trans ?_
  refine (r_bp (dk D292 60 rfl) cb30).trans ?_
  refine (r_iln (dk D292 61 rfl) rfl).trans ?_
  refine (r_imul (dk D292 62 rfl)).trans ?_
  refine (r_iln (dk D292 63 rfl) rfl).trans ?_
  refine (r_iadd (dk D292 64 rfl)).trans ?_
  refine (r_iln (dk D292 65 rfl) rfl).trans ?_
  refine (r_eq0 (dk D292 66 rfl) rfl).trans (ite2 ?_ ?_)
  · refine (r_ic (dk D292 70 rfl) cim1).trans ?_
    refine (r_ist (dk D292 71 rfl) ar_72).trans (ck3 fun g2 => ?_)
    refine (r_inc (L' := [.ref 46, .int l1, .int (l2 + 1), .int l3]) (dk D292 72 rfl) rfl rfl ci1 (Nat.le_of_ble_eq_true rfl) rfl).trans ?_
    refine (r_goto (L' := [.ref 46, .int l1, .int (l2 + 1), .retAddr 0]) (dk D292 73 rfl) rfl nd292_59 rfl).trans ?_
    exact rfl
  · refine (r_aln (dk D292 67 rfl) rfl).trans ?_
    exact r_cv (dk D292 68 rfl) ow292 c12_440 mf288 (Nat.le_of_ble_eq_true rfl) rfl rfl (Nat.le_of_ble_eq_true rfl) (Nat.le_of_ble_eq_true rfl) ob_46
theorem E292_115 {d sl : Nat} {p : Nat → Nat} {I : Nat → Nat → Int32} {J : Nat → Nat → Int64} (l1 : Int32) (l2 : Int32) (l3 : Int32) (s0 : Int32) (s1 : Int32)  : ev d 292 115 [.ref 46, .int l1, .int l2, .int l3] [.int s0, .int s1, .ref 72] (S sl p I J) = ck (ixb 900 s1) (ev d 292 59 [.ref 46, .int l1, .int (l2 + 1), .retAddr 0] [] (S sl p (up2 I 72 (Int32.toNatClampNeg s1) s0) J)) := by
  refine (r_goto (L' := [.ref 46, .int l1, .int l2, .int l3]) (dk D292 69 rfl) rfl nd292_119 rfl).trans ?_
  refine (r_ist (dk D292 71 rfl) ar_72).trans (ck3 fun g1 => ?_)
  refine (r_inc (L' := [.ref 46, .int l1, .int (l2 + 1), .int l3]) (dk D292 72 rfl) rfl rfl ci1 (Nat.le_of_ble_eq_true rfl) rfl).trans ?_
  refine (r_goto (L' := [.ref 46, .int l1, .int (l2 + 1), .retAddr 0]) (dk D292 73 rfl) rfl nd292_59 rfl).trans ?_
  exact rfl
set_option maxRecDepth 20000 in
theorem D293 : dOK 293 [(0, .aload_n 0, 1), (1, .invokevirtual 445, 3), (4, .aload_n 0, 1), (5, .aload_n 0, 1), (6, .getfield 213, 3), (9, .aload_n 0, 1), (10, .getfield 19, 3), (13, .invokevirtual 448, 3), (16, .ireturn, 1)] = true := by decide +kernel
theorem E293_0 {d sl : Nat} {p : Nat → Nat} {I : Nat → Nat → Int32} {J : Nat → Nat → Int64}   : den (d + 1) 293 [.ref 46] (S sl p I J) = evK (d + 1) 293 4 [.ref 46] [] (den d 292 [.ref 46] (S sl p I J)) := by
  refine (show den (d + 1) 293 [.ref 46] (S sl p I J) = ev (d + 1) 293 0 [.ref 46] [] (S sl p I J) from rfl).trans ?_
  refine (r_aln (dk D293 0 rfl) rfl).trans ?_
  exact r_cv (dk D293 1 rfl) ow293 c12_445 mf292 (Nat.le_of_ble_eq_true rfl) rfl rfl (Nat.le_of_ble_eq_true rfl) (Nat.le_of_ble_eq_true rfl) ob_46
theorem E293_4 {d sl : Nat} {p : Nat → Nat} {I : Nat → Nat → Int32} {J : Nat → Nat → Int64}   : ev (d + 1) 293 4 [.ref 46] [] (S sl p I J) = evK (d + 1) 293 16 [.ref 46] [] (den d 294 [.ref 46, .int (I 46 6), .int (I 46 7)] (S sl p I J)) := by
  refine (r_aln (dk D293 2 rfl) rfl).trans ?_
  refine (r_aln (dk D293 3 rfl) rfl).trans ?_
  refine (r_getI (dk D293 4 rfl) ow293 q12_213 ob_46).trans ?_
  refine (r_aln (dk D293 5 rfl) rfl).trans ?_
  refine (r_getI (dk D293 6 rfl) ow293 q12_19 ob_46).trans ?_
  exact r_cv (dk D293 7 rfl) ow293 c12_448 mf294 (Nat.le_of_ble_eq_true rfl) rfl rfl (Nat.le_of_ble_eq_true rfl) (Nat.le_of_ble_eq_true rfl) ob_46
theorem E293_16 {d sl : Nat} {p : Nat → Nat} {I : Nat → Nat → Int32} {J : Nat → Nat → Int64} (s0 : Int32)  : ev d 293 16 [.ref 46] [.int s0] (S sl p I J) = some (some (.int s0), (S sl p I J)) := by
  exact r_ret (dk D293 8 rfl) rt293
set_option maxRecDepth 20000 in
theorem D294 : dOK 294 [(0, .iconst 0, 1), (1, .istore_n 3, 1), (2, .iconst 0, 1), (3, .istore 4, 2), (5, .iload 4, 2), (7, .aload_n 0, 1), (8, .getfield 244, 3), (11, .if_icmp .ge 63, 3), (14, .iload_n 3, 1), (15, .aload_n 0, 1), (16, .getfield 96, 3), (19, .iload 4, 2), (21, .iaload, 1), (22, .iload_n 1, 1), (23, .invokestatic 451, 3), (26, .aload_n 0, 1), (27, .getfield 25, 3), (30, .if_icmp .gt 35, 3), (33, .aload_n 0, 1), (34, .getfield 99, 3), (37, .iload 4, 2), (39, .iaload, 1), (40, .aload_n 0, 1), (41, .getfield 22, 3), (44, .if_icmp .le 21, 3), (47, .aload_n 0, 1), (48, .getfield 99, 3), (51, .iload 4, 2), (53, .iaload, 1), (54, .iload_n 2, 1), (55, .if_icmp .ge 10, 3), (58, .iconst 1, 1), (59, .iload 4, 2), (61, .ishl, 1), (62, .goto 4, 3), (65, .iconst 0, 1), (66, .ior, 1), (67, .istore_n 3, 1), (68, .iinc 4 1, 3), (71, .goto (-66), 3), (74, .iload_n 3, 1), (75, .ireturn, 1)] = true := by decide +kernel
theorem E294_0 {d sl : Nat} {p : Nat → Nat} {I : Nat → Nat → Int32} {J : Nat → Nat → Int64} (a1 : Int32) (a2 : Int32)  : den d 294 [.ref 46, .int a1, .int a2] (S sl p I J) = ev d 294 5 [.ref 46, .int a1, .int a2, .int 0, .int 0] [] (S sl p I J) := by
  refine (show den d 294 [.ref 46, .int a1, .int a2] (S sl p I J) = ev d 294 0 [.ref 46, .int a1, .int a2, .retAddr 0, .retAddr 0] [] (S sl p I J) from rfl).trans ?_
  refine (r_ic (dk D294 0 rfl) ci0).trans ?_
  refine (r_isn (L' := [.ref 46, .int a1, .int a2, .int 0, .retAddr 0]) (dk D294 1 rfl) (Nat.le_of_ble_eq_true rfl) rfl).trans ?_
  refine (r_ic (dk D294 2 rfl) ci0).trans ?_
  refine (r_is (L' := [.ref 46, .int a1, .int a2, .int 0, .int 0]) (dk D294 3 rfl) (Nat.le_of_ble_eq_true rfl) rfl).trans ?_
  exact rfl
theorem E294_5 {d sl : Nat} {p : Nat → Nat} {I : Nat → Nat → Int32} {J : Nat → Nat → Int64} (l1 : Int32) (l2 : Int32) (l3 : Int32) (l4 : Int32)  : ev (d + 1) 294 5 [.ref 46, .int l1, .int l2, .int l3, .int l4] [] (S sl p I J) = (if l4 < (I 46 31) then ck (ixb 30 l4) (evK (d + 1) 294 26 [.ref 46, .int l1, .int l2, .int l3, .int l4] [.int l3] (den d 290 [.int (I 69 (Int32.toNatClampNeg l4)), .int l1] (S sl p I J))) else some (some (.int l3), (S sl p I J))) := by
  refine (r_il (dk D294 4 rfl) rfl).trans ?_
  refine (r_aln (dk D294 5 rfl) rfl).trans ?_
  refine (r_getI (dk D294 6 rfl) ow294 q12_244 ob_46).trans ?_
  refine (r_ge (dk D294 7 rfl) rfl).trans (ite2 ?_ ?_)
  · refine (r_iln (dk D294 8 rfl) rfl).trans ?_
    refine (r_aln (dk D294 9 rfl) rfl).trans ?_
    refine (r_getR (dk D294 10 rfl) ow294 q12_96 ob_46 rfl).trans ?_
    refine (r_il (dk D294 11 rfl) rfl).trans ?_
    refine (r_ild (dk D294 12 rfl) ar_69).trans (ck3 fun g1 => ?_)
    refine (r_iln (dk D294 13 rfl) rfl).trans ?_
    exact r_cs (dk D294 14 rfl) ow294 pn12_451 c12_451 mf290 (Nat.le_of_ble_eq_true rfl) rfl rfl (Nat.le_of_ble_eq_true rfl) (Nat.le_of_ble_eq_true rfl)
  · refine (r_iln (dk D294 40 rfl) rfl).trans ?_
    exact r_ret (dk D294 41 rfl) rt294
theorem E294_26 {d sl : Nat} {p : Nat → Nat} {I : Nat → Nat → Int32} {J : Nat → Nat → Int64} (l1 : Int32) (l2 : Int32) (l3 : Int32) (l4 : Int32) (s0 : Int32) (s1 : Int32)  : ev d 294 26 [.ref 46, .int l1, .int l2, .int l3, .int l4] [.int s0, .int s1] (S sl p I J) = (if s0 ≤ (I 46 9) then ck (ixb 30 l4) ((if (I 70 (Int32.toNatClampNeg l4)) ≤ (I 46 8) then ev d 294 5 [.ref 46, .int l1, .int l2, .int (s1 ||| 0), .int (l4 + 1)] [] (S sl p I J) else ck (ixb 30 l4) ((if (I 70 (Int32.toNatClampNeg l4)) < l2 then ev d 294 5 [.ref 46, .int l1, .int l2, .int (s1 ||| (1 <<< (l4 &&& 31))), .int (l4 + 1)] [] (S sl p I J) else ev d 294 5 [.ref 46, .int l1, .int l2, .int (s1 ||| 0), .int (l4 + 1)] [] (S sl p I J))))) else ev d 294 5 [.ref 46, .int l1, .int l2, .int (s1 ||| 0), .int (l4 + 1)] [] (S sl p I J)) := by
  refine (r_aln (dk D294 15 rfl) rfl).trans ?_
  refine (r_getI (dk D294 16 rfl) ow294 q12_25 ob_46).trans ?_
  refine (r_gt (dk D294 17 rfl) rfl).trans (ite2 ?_ ?_)
  · refine (r_aln (dk D294 18 rfl) rfl).trans ?_
    refine (r_getR (dk D294 19 rfl) ow294 q12_99 ob_46 rfl).trans ?_
    refine (r_il (dk D294 20 rfl) rfl).trans ?_
    refine (r_ild (dk D294 21 rfl) ar_70).trans (ck3 fun g1 => ?_)
    refine (r_aln (dk D294 22 rfl) rfl).trans ?_
    refine (r_getI (dk D294 23 rfl) ow294 q12_22 ob_46).trans ?_
    refine (r_le (dk D294 24 rfl) rfl).trans (ite2 ?_ ?_)
    · refine (r_ic (dk D294 35 rfl) ci0).trans ?_
      refine (r_ior (dk D294 36 rfl)).trans ?_
      refine (r_isn (L' := [.ref 46, .int l1, .int l2, .int (s1 ||| 0), .int l4]) (dk D294 37 rfl) (Nat.le_of_ble_eq_true rfl) rfl).trans ?_
      refine (r_inc (L' := [.ref 46, .int l1, .int l2, .int (s1 ||| 0), .int (l4 + 1)]) (dk D294 38 rfl) rfl rfl ci1 (Nat.le_of_ble_eq_true rfl) rfl).trans ?_
      refine (r_goto (L' := [.ref 46, .int l1, .int l2, .int (s1 ||| 0), .int (l4 + 1)]) (dk D294 39 rfl) rfl nd294_5 rfl).trans ?_
      exact rfl
    · refine (r_aln (dk D294 25 rfl) rfl).trans ?_
      refine (r_getR (dk D294 26 rfl) ow294 q12_99 ob_46 rfl).trans ?_
      refine (r_il (dk D294 27 rfl) rfl).trans ?_
      refine (r_ild (dk D294 28 rfl) ar_70).trans (ck3 fun g2 => ?_)
      refine (r_iln (dk D294 29 rfl) rfl).trans ?_
      refine (r_ge (dk D294 30 rfl) rfl).trans (ite2 ?_ ?_)
      · refine (r_ic (dk D294 31 rfl) ci1).trans ?_
        refine (r_il (dk D294 32 rfl) rfl).trans ?_
        refine (r_ishl (dk D294 33 rfl)).trans ?_
        refine (r_goto (L' := [.ref 46, .int l1, .int l2, .int l3, .int l4]) (dk D294 34 rfl) rfl nd294_66 rfl).trans ?_
        refine (r_ior (dk D294 36 rfl)).trans ?_
        refine (r_isn (L' := [.ref 46, .int l1, .int l2, .int (s1 ||| (1 <<< (l4 &&& 31))), .int l4]) (dk D294 37 rfl) (Nat.le_of_ble_eq_true rfl) rfl).trans ?_
        refine (r_inc (L' := [.ref 46, .int l1, .int l2, .int (s1 ||| (1 <<< (l4 &&& 31))), .int (l4 + 1)]) (dk D294 38 rfl) rfl rfl ci1 (Nat.le_of_ble_eq_true rfl) rfl).trans ?_
        refine (r_goto (L' := [.ref 46, .int l1, .int l2, .int (s1 ||| (1 <<< (l4 &&& 31))), .int (l4 + 1)]) (dk D294 39 rfl) rfl nd294_5 rfl).trans ?_
        exact rfl
      · refine (r_ic (dk D294 35 rfl) ci0).trans ?_
        refine (r_ior (dk D294 36 rfl)).trans ?_
        refine (r_isn (L' := [.ref 46, .int l1, .int l2, .int (s1 ||| 0), .int l4]) (dk D294 37 rfl) (Nat.le_of_ble_eq_true rfl) rfl).trans ?_
        refine (r_inc (L' := [.ref 46, .int l1, .int l2, .int (s1 ||| 0), .int (l4 + 1)]) (dk D294 38 rfl) rfl rfl ci1 (Nat.le_of_ble_eq_true rfl) rfl).trans ?_
        refine (r_goto (L' := [.ref 46, .int l1, .int l2, .int (s1 ||| 0), .int (l4 + 1)]) (dk D294 39 rfl) rfl nd294_5 rfl).trans ?_
        exact rfl
  · refine (r_ic (dk D294 35 rfl) ci0).trans ?_
    refine (r_ior (dk D294 36 rfl)).trans ?_
    refine (r_isn (L' := [.ref 46, .int l1, .int l2, .int (s1 ||| 0), .int l4]) (dk D294 37 rfl) (Nat.le_of_ble_eq_true rfl) rfl).trans ?_
    refine (r_inc (L' := [.ref 46, .int l1, .int l2, .int (s1 ||| 0), .int (l4 + 1)]) (dk D294 38 rfl) rfl rfl ci1 (Nat.le_of_ble_eq_true rfl) rfl).trans ?_
    refine (r_goto (L' := [.ref 46, .int l1, .int l2, .int (s1 ||| 0), .int (l4 + 1)]) (dk D294 39 rfl) rfl nd294_5 rfl).trans ?_
    exact rfl
set_option maxRecDepth 20000 in
theorem D295 : dOK 295 [(0, .iconst 0, 1), (1, .istore_n 3, 1), (2, .iconst 0, 1), (3, .istore 4, 2), (5, .iload 4, 2), (7, .aload_n 0, 1), (8, .getfield 244, 3), (11, .if_icmp .ge 61, 3), (14, .iload_n 3, 1), (15, .aload_n 0, 1), (16, .getfield 96, 3), (19, .iload 4, 2), (21, .iaload, 1), (22, .iload_n 1, 1), (23, .sipush 180, 3), (26, .iadd, 1), (27, .invokestatic 451, 3), (30, .aload_n 0, 1), (31, .getfield 25, 3), (34, .if_icmp .gt 29, 3), (37, .iload_n 2, 1), (38, .aload_n 0, 1), (39, .getfield 22, 3), (42, .isub, 1), (43, .bipush 90, 2), (45, .aload_n 0, 1), (46, .getfield 99, 3), (49, .iload 4, 2), (51, .iaload, 1), (52, .isub, 1), (53, .if_icmp .lt 10, 3), (56, .iconst 1, 1), (57, .iload 4, 2), (59, .ishl, 1), (60, .goto 4, 3), (63, .iconst 0, 1), (64, .ior, 1), (65, .istore_n 3, 1), (66, .iinc 4 1, 3), (69, .goto (-64), 3), (72, .iload_n 3, 1), (73, .ireturn, 1)] = true := by decide +kernel
theorem E295_0 {d sl : Nat} {p : Nat → Nat} {I : Nat → Nat → Int32} {J : Nat → Nat → Int64} (a1 : Int32) (a2 : Int32)  : den d 295 [.ref 46, .int a1, .int a2] (S sl p I J) = ev d 295 5 [.ref 46, .int a1, .int a2, .int 0, .int 0] [] (S sl p I J) := by
  refine (show den d 295 [.ref 46, .int a1, .int a2] (S sl p I J) = ev d 295 0 [.ref 46, .int a1, .int a2, .retAddr 0, .retAddr 0] [] (S sl p I J) from rfl).trans ?_
  refine (r_ic (dk D295 0 rfl) ci0).trans ?_
  refine (r_isn (L' := [.ref 46, .int a1, .int a2, .int 0, .retAddr 0]) (dk D295 1 rfl) (Nat.le_of_ble_eq_true rfl) rfl).trans ?_
  refine (r_ic (dk D295 2 rfl) ci0).trans ?_
  refine (r_is (L' := [.ref 46, .int a1, .int a2, .int 0, .int 0]) (dk D295 3 rfl) (Nat.le_of_ble_eq_true rfl) rfl).trans ?_
  exact rfl
theorem E295_5 {d sl : Nat} {p : Nat → Nat} {I : Nat → Nat → Int32} {J : Nat → Nat → Int64} (l1 : Int32) (l2 : Int32) (l3 : Int32) (l4 : Int32)  : ev (d + 1) 295 5 [.ref 46, .int l1, .int l2, .int l3, .int l4] [] (S sl p I J) = (if l4 < (I 46 31) then ck (ixb 30 l4) (evK (d + 1) 295 30 [.ref 46, .int l1, .int l2, .int l3, .int l4] [.int l3] (den d 290 [.int (I 69 (Int32.toNatClampNeg l4)), .int (l1 + 180)] (S sl p I J))) else some (some (.int l3), (S sl p I J))) := by
  refine (r_il (dk D295 4 rfl) rfl).trans ?_
  refine (r_aln (dk D295 5 rfl) rfl).trans ?_
  refine (r_getI (dk D295 6 rfl) ow295 q12_244 ob_46).trans ?_
  refine (r_ge (dk D295 7 rfl) rfl).trans (ite2 ?_ ?_)
  · refine (r_iln (dk D295 8 rfl) rfl).trans ?_
    refine (r_aln (dk D295 9 rfl) rfl).trans ?_
    refine (r_getR (dk D295 10 rfl) ow295 q12_96 ob_46 rfl).trans ?_
    refine (r_il (dk D295 11 rfl) rfl).trans ?_
    refine (r_ild (dk D295 12 rfl) ar_69).trans (ck3 fun g1 => ?_)
    refine (r_iln (dk D295 13 rfl) rfl).trans ?_
    refine (r_sp (dk D295 14 rfl) cs180).trans ?_
    refine (r_iadd (dk D295 15 rfl)).trans ?_
    exact r_cs (dk D295 16 rfl) ow295 pn12_451 c12_451 mf290 (Nat.le_of_ble_eq_true rfl) rfl rfl (Nat.le_of_ble_eq_true rfl) (Nat.le_of_ble_eq_true rfl)
  · refine (r_iln (dk D295 40 rfl) rfl).trans ?_
    exact r_ret (dk D295 41 rfl) rt295
theorem E295_30 {d sl : Nat} {p : Nat → Nat} {I : Nat → Nat → Int32} {J : Nat → Nat → Int64} (l1 : Int32) (l2 : Int32) (l3 : Int32) (l4 : Int32) (s0 : Int32) (s1 : Int32)  : ev d 295 30 [.ref 46, .int l1, .int l2, .int l3, .int l4] [.int s0, .int s1] (S sl p I J) = (if s0 ≤ (I 46 9) then ck (ixb 30 l4) ((if (l2 - (I 46 8)) < (90 - (I 70 (Int32.toNatClampNeg l4))) then ev d 295 5 [.ref 46, .int l1, .int l2, .int (s1 ||| 0), .int (l4 + 1)] [] (S sl p I J) else ev d 295 5 [.ref 46, .int l1, .int l2, .int (s1 ||| (1 <<< (l4 &&& 31))), .int (l4 + 1)] [] (S sl p I J))) else ev d 295 5 [.ref 46, .int l1, .int l2, .int (s1 ||| 0), .int (l4 + 1)] [] (S sl p I J)) := by
  refine (r_aln (dk D295 17 rfl) rfl).trans ?_
  refine (r_getI (dk D295 18 rfl) ow295 q12_25 ob_46).trans ?_
  refine (r_gt (dk D295 19 rfl) rfl).trans (ite2 ?_ ?_)
  · refine (r_iln (dk D295 20 rfl) rfl).trans ?_
    refine (r_aln (dk D295 21 rfl) rfl).trans ?_
    refine (r_getI (dk D295 22 rfl) ow295 q12_22 ob_46).trans ?_
    refine (r_isub (dk D295 23 rfl)).trans ?_
    refine (r_bp (dk D295 24 rfl) cb90).trans ?_
    refine (r_aln (dk D295 25 rfl) rfl).trans ?_
    refine (r_getR (dk D295 26 rfl) ow295 q12_99 ob_46 rfl).trans ?_
    refine (r_il (dk D295 27 rfl) rfl).trans ?_
    refine (r_ild (dk D295 28 rfl) ar_70).trans (ck3 fun g1 => ?_)
    refine (r_isub (dk D295 29 rfl)).trans ?_
    refine (r_lt (dk D295 30 rfl) rfl).trans (ite2 ?_ ?_)
    · refine (r_ic (dk D295 35 rfl) ci0).trans ?_
      refine (r_ior (dk D295 36 rfl)).trans ?_
      refine (r_isn (L' := [.ref 46, .int l1, .int l2, .int (s1 ||| 0), .int l4]) (dk D295 37 rfl) (Nat.le_of_ble_eq_true rfl) rfl).trans ?_
      refine (r_inc (L' := [.ref 46, .int l1, .int l2, .int (s1 ||| 0), .int (l4 + 1)]) (dk D295 38 rfl) rfl rfl ci1 (Nat.le_of_ble_eq_true rfl) rfl).trans ?_
      refine (r_goto (L' := [.ref 46, .int l1, .int l2, .int (s1 ||| 0), .int (l4 + 1)]) (dk D295 39 rfl) rfl nd295_5 rfl).trans ?_
      exact rfl
    · refine (r_ic (dk D295 31 rfl) ci1).trans ?_
      refine (r_il (dk D295 32 rfl) rfl).trans ?_
      refine (r_ishl (dk D295 33 rfl)).trans ?_
      refine (r_goto (L' := [.ref 46, .int l1, .int l2, .int l3, .int l4]) (dk D295 34 rfl) rfl nd295_64 rfl).trans ?_
      refine (r_ior (dk D295 36 rfl)).trans ?_
      refine (r_isn (L' := [.ref 46, .int l1, .int l2, .int (s1 ||| (1 <<< (l4 &&& 31))), .int l4]) (dk D295 37 rfl) (Nat.le_of_ble_eq_true rfl) rfl).trans ?_
      refine (r_inc (L' := [.ref 46, .int l1, .int l2, .int (s1 ||| (1 <<< (l4 &&& 31))), .int (l4 + 1)]) (dk D295 38 rfl) rfl rfl ci1 (Nat.le_of_ble_eq_true rfl) rfl).trans ?_
      refine (r_goto (L' := [.ref 46, .int l1, .int l2, .int (s1 ||| (1 <<< (l4 &&& 31))), .int (l4 + 1)]) (dk D295 39 rfl) rfl nd295_5 rfl).trans ?_
      exact rfl
  · refine (r_ic (dk D295 35 rfl) ci0).trans ?_
    refine (r_ior (dk D295 36 rfl)).trans ?_
    refine (r_isn (L' := [.ref 46, .int l1, .int l2, .int (s1 ||| 0), .int l4]) (dk D295 37 rfl) (Nat.le_of_ble_eq_true rfl) rfl).trans ?_
    refine (r_inc (L' := [.ref 46, .int l1, .int l2, .int (s1 ||| 0), .int (l4 + 1)]) (dk D295 38 rfl) rfl rfl ci1 (Nat.le_of_ble_eq_true rfl) rfl).trans ?_
    refine (r_goto (L' := [.ref 46, .int l1, .int l2, .int (s1 ||| 0), .int (l4 + 1)]) (dk D295 39 rfl) rfl nd295_5 rfl).trans ?_
    exact rfl
set_option maxRecDepth 20000 in
theorem D296 : dOK 296 [(0, .aload_n 0, 1), (1, .getfield 102, 3), (4, .bipush 30, 2), (6, .iload_n 1, 1), (7, .imul, 1), (8, .iload_n 2, 1), (9, .iadd, 1), (10, .iaload, 1), (11, .istore 5, 2), (13, .aload_n 0, 1), (14, .getfield 105, 3), (17, .bipush 30, 2), (19, .iload_n 1, 1), (20, .imul, 1), (21, .iload_n 2, 1), (22, .iadd, 1), (23, .iaload, 1), (24, .istore 6, 2), (26, .iload 5, 2), (28, .iconst (-1), 1), (29, .if_icmp .ne 5, 3), (32, .iconst 0, 1), (33, .ireturn, 1), (34, .iload 5, 2), (36, .iload_n 3, 1), (37, .invokestatic 451, 3), (40, .istore 7, 2), (42, .iload 7, 2), (44, .bipush 90, 2), (46, .if_icmp .ge 56, 3), (49, .iload 6, 2), (51, .aload_n 0, 1), (52, .getfield 22, 3), (55, .if_icmp .le 47, 3), (58, .iload 6, 2), (60, .invokestatic 111, 3), (63, .iload 4, 2), (65, .invokestatic 124, 3), (68, .imul, 1), (69, .i2l, 1), (70, .ldc2_w 162, 3), (73, .lmul, 1), (74, .iload 4, 2), (76, .invokestatic 111, 3), (79, .i2l, 1), (80, .iload 7, 2), (82, .invokestatic 124, 3), (85, .i2l, 1), (86, .lmul, 1), (87, .iload 6, 2), (89, .invokestatic 124, 3), (92, .i2l, 1), (93, .lmul, 1), (94, .lcmp, 1), (95, .ifCond .ge 7, 3), (98, .iconst 1, 1), (99, .goto 4, 3), (102, .iconst 0, 1), (103, .ireturn, 1)] = true := by decide +kernel
theorem E296_0 {d sl : Nat} {p : Nat → Nat} {I : Nat → Nat → Int32} {J : Nat → Nat → Int64} (a1 : Int32) (a2 : Int32) (a3 : Int32) (a4 : Int32)  : den (d + 1) 296 [.ref 46, .int a1, .int a2, .int a3, .int a4] (S sl p I J) = ck (ixb 900 ((30 * a1) + a2)) (ck (ixb 900 ((30 * a1) + a2)) ((if (I 71 (Int32.toNatClampNeg ((30 * a1) + a2))) = (-1) then some (some (.int 0), (S sl p I J)) else evK (d + 1) 296 40 [.ref 46, .int a1, .int a2, .int a3, .int a4, .int (I 71 (Int32.toNatClampNeg ((30 * a1) + a2))), .int (I 72 (Int32.toNatClampNeg ((30 * a1) + a2))), .retAddr 0] [] (den d 290 [.int (I 71 (Int32.toNatClampNeg ((30 * a1) + a2))), .int a3] (S sl p I J))))) := by
  refine (show den (d + 1) 296 [.ref 46, .int a1, .int a2, .int a3, .int a4] (S sl p I J) = ev (d + 1) 296 0 [.ref 46, .int a1, .int a2, .int a3, .int a4, .retAddr 0, .retAddr 0, .retAddr 0] [] (S sl p I J) from rfl).trans ?_
  refine (r_aln (dk D296 0 rfl) rfl).trans ?_
  refine (r_getR (dk D296 1 rfl) ow296 q12_102 ob_46 rfl).trans ?_
  refine (r_bp (dk D296 2 rfl) cb30).trans ?_
  refine (r_iln (dk D296 3 rfl) rfl).trans ?_
  refine (r_imul (dk D296 4 rfl)).trans ?_
  refine (r_iln (dk D296 5 rfl) rfl).trans ?_
  refine (r_iadd (dk D296 6 rfl)).trans ?_
  refine (r_ild (dk D296 7 rfl) ar_71).trans (ck3 fun g1 => ?_)
  refine (r_is (L' := [.ref 46, .int a1, .int a2, .int a3, .int a4, .int (I 71 (Int32.toNatClampNeg ((30 * a1) + a2))), .retAddr 0, .retAddr 0]) (dk D296 8 rfl) (Nat.le_of_ble_eq_true rfl) rfl).trans ?_
  refine (r_aln (dk D296 9 rfl) rfl).trans ?_
  refine (r_getR (dk D296 10 rfl) ow296 q12_105 ob_46 rfl).trans ?_
  refine (r_bp (dk D296 11 rfl) cb30).trans ?_
  refine (r_iln (dk D296 12 rfl) rfl).trans ?_
  refine (r_imul (dk D296 13 rfl)).trans ?_
  refine (r_iln (dk D296 14 rfl) rfl).trans ?_
  refine (r_iadd (dk D296 15 rfl)).trans ?_
  refine (r_ild (dk D296 16 rfl) ar_72).trans (ck3 fun g2 => ?_)
  refine (r_is (L' := [.ref 46, .int a1, .int a2, .int a3, .int a4, .int (I 71 (Int32.toNatClampNeg ((30 * a1) + a2))), .int (I 72 (Int32.toNatClampNeg ((30 * a1) + a2))), .retAddr 0]) (dk D296 17 rfl) (Nat.le_of_ble_eq_true rfl) rfl).trans ?_
  refine (r_il (dk D296 18 rfl) rfl).trans ?_
  refine (r_ic (dk D296 19 rfl) cim1).trans ?_
  refine (r_ne (dk D296 20 rfl) rfl).trans (ite2 ?_ ?_)
  · refine (r_ic (dk D296 21 rfl) ci0).trans ?_
    exact r_rez (dk D296 22 rfl) rt296 (by decide)
  · refine (r_il (dk D296 23 rfl) rfl).trans ?_
    refine (r_iln (dk D296 24 rfl) rfl).trans ?_
    exact r_cs (dk D296 25 rfl) ow296 pn12_451 c12_451 mf290 (Nat.le_of_ble_eq_true rfl) rfl rfl (Nat.le_of_ble_eq_true rfl) (Nat.le_of_ble_eq_true rfl)
theorem E296_40 {d sl : Nat} {p : Nat → Nat} {I : Nat → Nat → Int32} {J : Nat → Nat → Int64} (l1 : Int32) (l2 : Int32) (l3 : Int32) (l4 : Int32) (l5 : Int32) (l6 : Int32) (s0 : Int32)  : ev (d + 1) 296 40 [.ref 46, .int l1, .int l2, .int l3, .int l4, .int l5, .int l6, .retAddr 0] [.int s0] (S sl p I J) = (if s0 < 90 then (if l6 ≤ (I 46 8) then some (some (.int 0), (S sl p I J)) else evK (d + 1) 296 63 [.ref 46, .int l1, .int l2, .int l3, .int l4, .int l5, .int l6, .int s0] [] (den d 182 [.int l6] (S sl p I J))) else some (some (.int 0), (S sl p I J))) := by
  refine (r_is (L' := [.ref 46, .int l1, .int l2, .int l3, .int l4, .int l5, .int l6, .int s0]) (dk D296 26 rfl) (Nat.le_of_ble_eq_true rfl) rfl).trans ?_
  refine (r_il (dk D296 27 rfl) rfl).trans ?_
  refine (r_bp (dk D296 28 rfl) cb90).trans ?_
  refine (r_ge (dk D296 29 rfl) rfl).trans (ite2 ?_ ?_)
  · refine (r_il (dk D296 30 rfl) rfl).trans ?_
    refine (r_aln (dk D296 31 rfl) rfl).trans ?_
    refine (r_getI (dk D296 32 rfl) ow296 q12_22 ob_46).trans ?_
    refine (r_le (dk D296 33 rfl) rfl).trans (ite2 ?_ ?_)
    · refine (r_ic (dk D296 57 rfl) ci0).trans ?_
      exact r_rez (dk D296 58 rfl) rt296 (by decide)
    · refine (r_il (dk D296 34 rfl) rfl).trans ?_
      exact r_cs (dk D296 35 rfl) ow296 pn12_111 c12_111 mf182 (Nat.le_of_ble_eq_true rfl) rfl rfl (Nat.le_of_ble_eq_true rfl) (Nat.le_of_ble_eq_true rfl)
  · refine (r_ic (dk D296 57 rfl) ci0).trans ?_
    exact r_rez (dk D296 58 rfl) rt296 (by decide)
theorem E296_63 {d sl : Nat} {p : Nat → Nat} {I : Nat → Nat → Int32} {J : Nat → Nat → Int64} (l1 : Int32) (l2 : Int32) (l3 : Int32) (l4 : Int32) (l5 : Int32) (l6 : Int32) (l7 : Int32) (s0 : Int32)  : ev (d + 1) 296 63 [.ref 46, .int l1, .int l2, .int l3, .int l4, .int l5, .int l6, .int l7] [.int s0] (S sl p I J) = evK (d + 1) 296 68 [.ref 46, .int l1, .int l2, .int l3, .int l4, .int l5, .int l6, .int l7] [.int s0] (den d 183 [.int l4] (S sl p I J)) := by
  refine (r_il (dk D296 36 rfl) rfl).trans ?_
  exact r_cs (dk D296 37 rfl) ow296 pn12_124 c12_124 mf183 (Nat.le_of_ble_eq_true rfl) rfl rfl (Nat.le_of_ble_eq_true rfl) (Nat.le_of_ble_eq_true rfl)
theorem E296_68 {d sl : Nat} {p : Nat → Nat} {I : Nat → Nat → Int32} {J : Nat → Nat → Int64} (l1 : Int32) (l2 : Int32) (l3 : Int32) (l4 : Int32) (l5 : Int32) (l6 : Int32) (l7 : Int32) (s0 : Int32) (s1 : Int32)  : ev (d + 1) 296 68 [.ref 46, .int l1, .int l2, .int l3, .int l4, .int l5, .int l6, .int l7] [.int s0, .int s1] (S sl p I J) = evK (d + 1) 296 79 [.ref 46, .int l1, .int l2, .int l3, .int l4, .int l5, .int l6, .int l7] [.long ((Int32.toInt64 (s1 * s0)) * 1000)] (den d 182 [.int l4] (S sl p I J)) := by
  refine (r_imul (dk D296 38 rfl)).trans ?_
  refine (r_i2l (dk D296 39 rfl)).trans ?_
  refine (r_ld2 (dk D296 40 rfl) ow296 kk12_162).trans ?_
  refine (r_lmul (dk D296 41 rfl)).trans ?_
  refine (r_il (dk D296 42 rfl) rfl).trans ?_
  exact r_cs (dk D296 43 rfl) ow296 pn12_111 c12_111 mf182 (Nat.le_of_ble_eq_true rfl) rfl rfl (Nat.le_of_ble_eq_true rfl) (Nat.le_of_ble_eq_true rfl)
theorem E296_79 {d sl : Nat} {p : Nat → Nat} {I : Nat → Nat → Int32} {J : Nat → Nat → Int64} (l1 : Int32) (l2 : Int32) (l3 : Int32) (l4 : Int32) (l5 : Int32) (l6 : Int32) (l7 : Int32) (s0 : Int32) (s1 : Int64)  : ev (d + 1) 296 79 [.ref 46, .int l1, .int l2, .int l3, .int l4, .int l5, .int l6, .int l7] [.int s0, .long s1] (S sl p I J) = evK (d + 1) 296 85 [.ref 46, .int l1, .int l2, .int l3, .int l4, .int l5, .int l6, .int l7] [.long (Int32.toInt64 s0), .long s1] (den d 183 [.int l7] (S sl p I J)) := by
  refine (r_i2l (dk D296 44 rfl)).trans ?_
  refine (r_il (dk D296 45 rfl) rfl).trans ?_
  exact r_cs (dk D296 46 rfl) ow296 pn12_124 c12_124 mf183 (Nat.le_of_ble_eq_true rfl) rfl rfl (Nat.le_of_ble_eq_true rfl) (Nat.le_of_ble_eq_true rfl)
theorem E296_85 {d sl : Nat} {p : Nat → Nat} {I : Nat → Nat → Int32} {J : Nat → Nat → Int64} (l1 : Int32) (l2 : Int32) (l3 : Int32) (l4 : Int32) (l5 : Int32) (l6 : Int32) (l7 : Int32) (s0 : Int32) (s1 : Int64) (s2 : Int64)  : ev (d + 1) 296 85 [.ref 46, .int l1, .int l2, .int l3, .int l4, .int l5, .int l6, .int l7] [.int s0, .long s1, .long s2] (S sl p I J) = evK (d + 1) 296 92 [.ref 46, .int l1, .int l2, .int l3, .int l4, .int l5, .int l6, .int l7] [.long (s1 * (Int32.toInt64 s0)), .long s2] (den d 183 [.int l6] (S sl p I J)) := by
  refine (r_i2l (dk D296 47 rfl)).trans ?_
  refine (r_lmul (dk D296 48 rfl)).trans ?_
  refine (r_il (dk D296 49 rfl) rfl).trans ?_
  exact r_cs (dk D296 50 rfl) ow296 pn12_124 c12_124 mf183 (Nat.le_of_ble_eq_true rfl) rfl rfl (Nat.le_of_ble_eq_true rfl) (Nat.le_of_ble_eq_true rfl)
theorem E296_92 {d sl : Nat} {p : Nat → Nat} {I : Nat → Nat → Int32} {J : Nat → Nat → Int64} (l1 : Int32) (l2 : Int32) (l3 : Int32) (l4 : Int32) (l5 : Int32) (l6 : Int32) (l7 : Int32) (s0 : Int32) (s1 : Int64) (s2 : Int64)  : ev d 296 92 [.ref 46, .int l1, .int l2, .int l3, .int l4, .int l5, .int l6, .int l7] [.int s0, .long s1, .long s2] (S sl p I J) = (if s2 < (s1 * (Int32.toInt64 s0)) then some (some (.int 1), (S sl p I J)) else some (some (.int 0), (S sl p I J))) := by
  refine (r_i2l (dk D296 51 rfl)).trans ?_
  refine (r_lmul (dk D296 52 rfl)).trans ?_
  refine (r_jge (dk D296 53 rfl) (dk D296 54 rfl) rfl).trans (ite2 ?_ ?_)
  · refine (r_ic (dk D296 55 rfl) ci1).trans ?_
    refine (r_goto (L' := [.ref 46, .int l1, .int l2, .int l3, .int l4, .int l5, .int l6, .int l7]) (dk D296 56 rfl) rfl nd296_103 rfl).trans ?_
    exact r_rez (dk D296 58 rfl) rt296 (by decide)
  · refine (r_ic (dk D296 57 rfl) ci0).trans ?_
    exact r_rez (dk D296 58 rfl) rt296 (by decide)
set_option maxRecDepth 20000 in
theorem D297 : dOK 297 [(0, .iconst 0, 1), (1, .istore_n 3, 1), (2, .iconst 0, 1), (3, .istore 4, 2), (5, .iload 4, 2), (7, .aload_n 0, 1), (8, .getfield 244, 3), (11, .if_icmp .ge 51, 3), (14, .iload 4, 2), (16, .iconst 1, 1), (17, .iadd, 1), (18, .istore 5, 2), (20, .iload 5, 2), (22, .aload_n 0, 1), (23, .getfield 244, 3), (26, .if_icmp .ge 30, 3), (29, .iload_n 3, 1), (30, .aload_n 0, 1), (31, .iload 4, 2), (33, .iload 5, 2), (35, .iload_n 1, 1), (36, .iload_n 2, 1), (37, .invokevirtual 454, 3), (40, .ifCond .eq 7, 3), (43, .iconst 1, 1), (44, .goto 4, 3), (47, .iconst 0, 1), (48, .iadd, 1), (49, .istore_n 3, 1), (50, .iinc 5 1, 3), (53, .goto (-33), 3), (56, .iinc 4 1, 3), (59, .goto (-54), 3), (62, .iload_n 3, 1), (63, .ireturn, 1)] = true := by decide +kernel
theorem E297_0 {d sl : Nat} {p : Nat → Nat} {I : Nat → Nat → Int32} {J : Nat → Nat → Int64} (a1 : Int32) (a2 : Int32)  : den d 297 [.ref 46, .int a1, .int a2] (S sl p I J) = ev d 297 5 [.ref 46, .int a1, .int a2, .int 0, .int 0, .retAddr 0] [] (S sl p I J) := by
  refine (show den d 297 [.ref 46, .int a1, .int a2] (S sl p I J) = ev d 297 0 [.ref 46, .int a1, .int a2, .retAddr 0, .retAddr 0, .retAddr 0] [] (S sl p I J) from rfl).trans ?_
  refine (r_ic (dk D297 0 rfl) ci0).trans ?_
  refine (r_isn (L' := [.ref 46, .int a1, .int a2, .int 0, .retAddr 0, .retAddr 0]) (dk D297 1 rfl) (Nat.le_of_ble_eq_true rfl) rfl).trans ?_
  refine (r_ic (dk D297 2 rfl) ci0).trans ?_
  refine (r_is (L' := [.ref 46, .int a1, .int a2, .int 0, .int 0, .retAddr 0]) (dk D297 3 rfl) (Nat.le_of_ble_eq_true rfl) rfl).trans ?_
  exact rfl
theorem E297_5 {d sl : Nat} {p : Nat → Nat} {I : Nat → Nat → Int32} {J : Nat → Nat → Int64} (l1 : Int32) (l2 : Int32) (l3 : Int32) (l4 : Int32)  : ev d 297 5 [.ref 46, .int l1, .int l2, .int l3, .int l4, .retAddr 0] [] (S sl p I J) = (if l4 < (I 46 31) then ev d 297 20 [.ref 46, .int l1, .int l2, .int l3, .int l4, .int (l4 + 1)] [] (S sl p I J) else some (some (.int l3), (S sl p I J))) := by
  refine (r_il (dk D297 4 rfl) rfl).trans ?_
  refine (r_aln (dk D297 5 rfl) rfl).trans ?_
  refine (r_getI (dk D297 6 rfl) ow297 q12_244 ob_46).trans ?_
  refine (r_ge (dk D297 7 rfl) rfl).trans (ite2 ?_ ?_)
  · refine (r_il (dk D297 8 rfl) rfl).trans ?_
    refine (r_ic (dk D297 9 rfl) ci1).trans ?_
    refine (r_iadd (dk D297 10 rfl)).trans ?_
    refine (r_is (L' := [.ref 46, .int l1, .int l2, .int l3, .int l4, .int (l4 + 1)]) (dk D297 11 rfl) (Nat.le_of_ble_eq_true rfl) rfl).trans ?_
    exact rfl
  · refine (r_iln (dk D297 33 rfl) rfl).trans ?_
    exact r_ret (dk D297 34 rfl) rt297
theorem E297_20 {d sl : Nat} {p : Nat → Nat} {I : Nat → Nat → Int32} {J : Nat → Nat → Int64} (l1 : Int32) (l2 : Int32) (l3 : Int32) (l4 : Int32) (l5 : Int32)  : ev (d + 1) 297 20 [.ref 46, .int l1, .int l2, .int l3, .int l4, .int l5] [] (S sl p I J) = (if l5 < (I 46 31) then evK (d + 1) 297 40 [.ref 46, .int l1, .int l2, .int l3, .int l4, .int l5] [.int l3] (den d 296 [.ref 46, .int l4, .int l5, .int l1, .int l2] (S sl p I J)) else ev (d + 1) 297 5 [.ref 46, .int l1, .int l2, .int l3, .int (l4 + 1), .retAddr 0] [] (S sl p I J)) := by
  refine (r_il (dk D297 12 rfl) rfl).trans ?_
  refine (r_aln (dk D297 13 rfl) rfl).trans ?_
  refine (r_getI (dk D297 14 rfl) ow297 q12_244 ob_46).trans ?_
  refine (r_ge (dk D297 15 rfl) rfl).trans (ite2 ?_ ?_)
  · refine (r_iln (dk D297 16 rfl) rfl).trans ?_
    refine (r_aln (dk D297 17 rfl) rfl).trans ?_
    refine (r_il (dk D297 18 rfl) rfl).trans ?_
    refine (r_il (dk D297 19 rfl) rfl).trans ?_
    refine (r_iln (dk D297 20 rfl) rfl).trans ?_
    refine (r_iln (dk D297 21 rfl) rfl).trans ?_
    exact r_cv (dk D297 22 rfl) ow297 c12_454 mf296 (Nat.le_of_ble_eq_true rfl) rfl rfl (Nat.le_of_ble_eq_true rfl) (Nat.le_of_ble_eq_true rfl) ob_46
  · refine (r_inc (L' := [.ref 46, .int l1, .int l2, .int l3, .int (l4 + 1), .int l5]) (dk D297 31 rfl) rfl rfl ci1 (Nat.le_of_ble_eq_true rfl) rfl).trans ?_
    refine (r_goto (L' := [.ref 46, .int l1, .int l2, .int l3, .int (l4 + 1), .retAddr 0]) (dk D297 32 rfl) rfl nd297_5 rfl).trans ?_
    exact rfl
theorem E297_40 {d sl : Nat} {p : Nat → Nat} {I : Nat → Nat → Int32} {J : Nat → Nat → Int64} (l1 : Int32) (l2 : Int32) (l3 : Int32) (l4 : Int32) (l5 : Int32) (s0 : Int32) (s1 : Int32)  : ev d 297 40 [.ref 46, .int l1, .int l2, .int l3, .int l4, .int l5] [.int s0, .int s1] (S sl p I J) = (if s0 = 0 then ev d 297 20 [.ref 46, .int l1, .int l2, .int (s1 + 0), .int l4, .int (l5 + 1)] [] (S sl p I J) else ev d 297 20 [.ref 46, .int l1, .int l2, .int (s1 + 1), .int l4, .int (l5 + 1)] [] (S sl p I J)) := by
  refine (r_eq0 (dk D297 23 rfl) rfl).trans (ite2 ?_ ?_)
  · refine (r_ic (dk D297 26 rfl) ci0).trans ?_
    refine (r_iadd (dk D297 27 rfl)).trans ?_
    refine (r_isn (L' := [.ref 46, .int l1, .int l2, .int (s1 + 0), .int l4, .int l5]) (dk D297 28 rfl) (Nat.le_of_ble_eq_true rfl) rfl).trans ?_
    refine (r_inc (L' := [.ref 46, .int l1, .int l2, .int (s1 + 0), .int l4, .int (l5 + 1)]) (dk D297 29 rfl) rfl rfl ci1 (Nat.le_of_ble_eq_true rfl) rfl).trans ?_
    refine (r_goto (L' := [.ref 46, .int l1, .int l2, .int (s1 + 0), .int l4, .int (l5 + 1)]) (dk D297 30 rfl) rfl nd297_20 rfl).trans ?_
    exact rfl
  · refine (r_ic (dk D297 24 rfl) ci1).trans ?_
    refine (r_goto (L' := [.ref 46, .int l1, .int l2, .int l3, .int l4, .int l5]) (dk D297 25 rfl) rfl nd297_48 rfl).trans ?_
    refine (r_iadd (dk D297 27 rfl)).trans ?_
    refine (r_isn (L' := [.ref 46, .int l1, .int l2, .int (s1 + 1), .int l4, .int l5]) (dk D297 28 rfl) (Nat.le_of_ble_eq_true rfl) rfl).trans ?_
    refine (r_inc (L' := [.ref 46, .int l1, .int l2, .int (s1 + 1), .int l4, .int (l5 + 1)]) (dk D297 29 rfl) rfl rfl ci1 (Nat.le_of_ble_eq_true rfl) rfl).trans ?_
    refine (r_goto (L' := [.ref 46, .int l1, .int l2, .int (s1 + 1), .int l4, .int (l5 + 1)]) (dk D297 30 rfl) rfl nd297_20 rfl).trans ?_
    exact rfl
set_option maxRecDepth 20000 in
theorem D298 : dOK 298 [(0, .iconst 0, 1), (1, .istore_n 1, 1), (2, .iload_n 1, 1), (3, .aload_n 0, 1), (4, .getfield 244, 3), (7, .if_icmp .ge 51, 3), (10, .iload_n 1, 1), (11, .iconst 1, 1), (12, .iadd, 1), (13, .istore_n 2, 1), (14, .iload_n 2, 1), (15, .aload_n 0, 1), (16, .getfield 244, 3), (19, .if_icmp .ge 33, 3), (22, .aload_n 0, 1), (23, .iload_n 1, 1), (24, .iload_n 2, 1), (25, .aload_n 0, 1), (26, .getfield 213, 3), (29, .aload_n 0, 1), (30, .getfield 19, 3), (33, .invokevirtual 454, 3), (36, .ifCond .eq 10, 3), (39, .bipush 100, 2), (41, .iload_n 1, 1), (42, .imul, 1), (43, .iload_n 2, 1), (44, .iadd, 1), (45, .ireturn, 1), (46, .iinc 2 1, 3), (49, .goto (-35), 3), (52, .iinc 1 1, 3), (55, .goto (-53), 3), (58, .iconst (-1), 1), (59, .ireturn, 1)] = true := by decide +kernel
theorem E298_0 {d sl : Nat} {p : Nat → Nat} {I : Nat → Nat → Int32} {J : Nat → Nat → Int64}   : den d 298 [.ref 46] (S sl p I J) = ev d 298 2 [.ref 46, .int 0, .retAddr 0] [] (S sl p I J) := by
  refine (show den d 298 [.ref 46] (S sl p I J) = ev d 298 0 [.ref 46, .retAddr 0, .retAddr 0] [] (S sl p I J) from rfl).trans ?_
  refine (r_ic (dk D298 0 rfl) ci0).trans ?_
  refine (r_isn (L' := [.ref 46, .int 0, .retAddr 0]) (dk D298 1 rfl) (Nat.le_of_ble_eq_true rfl) rfl).trans ?_
  exact rfl
theorem E298_2 {d sl : Nat} {p : Nat → Nat} {I : Nat → Nat → Int32} {J : Nat → Nat → Int64} (l1 : Int32)  : ev d 298 2 [.ref 46, .int l1, .retAddr 0] [] (S sl p I J) = (if l1 < (I 46 31) then ev d 298 14 [.ref 46, .int l1, .int (l1 + 1)] [] (S sl p I J) else some (some (.int (-1)), (S sl p I J))) := by
  refine (r_iln (dk D298 2 rfl) rfl).trans ?_
  refine (r_aln (dk D298 3 rfl) rfl).trans ?_
  refine (r_getI (dk D298 4 rfl) ow298 q12_244 ob_46).trans ?_
  refine (r_ge (dk D298 5 rfl) rfl).trans (ite2 ?_ ?_)
  · refine (r_iln (dk D298 6 rfl) rfl).trans ?_
    refine (r_ic (dk D298 7 rfl) ci1).trans ?_
    refine (r_iadd (dk D298 8 rfl)).trans ?_
    refine (r_isn (L' := [.ref 46, .int l1, .int (l1 + 1)]) (dk D298 9 rfl) (Nat.le_of_ble_eq_true rfl) rfl).trans ?_
    exact rfl
  · refine (r_ic (dk D298 33 rfl) cim1).trans ?_
    exact r_ret (dk D298 34 rfl) rt298
theorem E298_14 {d sl : Nat} {p : Nat → Nat} {I : Nat → Nat → Int32} {J : Nat → Nat → Int64} (l1 : Int32) (l2 : Int32)  : ev (d + 1) 298 14 [.ref 46, .int l1, .int l2] [] (S sl p I J) = (if l2 < (I 46 31) then evK (d + 1) 298 36 [.ref 46, .int l1, .int l2] [] (den d 296 [.ref 46, .int l1, .int l2, .int (I 46 6), .int (I 46 7)] (S sl p I J)) else ev (d + 1) 298 2 [.ref 46, .int (l1 + 1), .retAddr 0] [] (S sl p I J)) := by
  refine (r_iln (dk D298 10 rfl) rfl).trans ?_
  refine (r_aln (dk D298 11 rfl) rfl).trans ?_
  refine (r_getI (dk D298 12 rfl) ow298 q12_244 ob_46).trans ?_
  refine (r_ge (dk D298 13 rfl) rfl).trans (ite2 ?_ ?_)
  · refine (r_aln (dk D298 14 rfl) rfl).trans ?_
    refine (r_iln (dk D298 15 rfl) rfl).trans ?_
    refine (r_iln (dk D298 16 rfl) rfl).trans ?_
    refine (r_aln (dk D298 17 rfl) rfl).trans ?_
    refine (r_getI (dk D298 18 rfl) ow298 q12_213 ob_46).trans ?_
    refine (r_aln (dk D298 19 rfl) rfl).trans ?_
    refine (r_getI (dk D298 20 rfl) ow298 q12_19 ob_46).trans ?_
    exact r_cv (dk D298 21 rfl) ow298 c12_454 mf296 (Nat.le_of_ble_eq_true rfl) rfl rfl (Nat.le_of_ble_eq_true rfl) (Nat.le_of_ble_eq_true rfl) ob_46
  · refine (r_inc (L' := [.ref 46, .int (l1 + 1), .int l2]) (dk D298 31 rfl) rfl rfl ci1 (Nat.le_of_ble_eq_true rfl) rfl).trans ?_
    refine (r_goto (L' := [.ref 46, .int (l1 + 1), .retAddr 0]) (dk D298 32 rfl) rfl nd298_2 rfl).trans ?_
    exact rfl
theorem E298_36 {d sl : Nat} {p : Nat → Nat} {I : Nat → Nat → Int32} {J : Nat → Nat → Int64} (l1 : Int32) (l2 : Int32) (s0 : Int32)  : ev d 298 36 [.ref 46, .int l1, .int l2] [.int s0] (S sl p I J) = (if s0 = 0 then ev d 298 14 [.ref 46, .int l1, .int (l2 + 1)] [] (S sl p I J) else some (some (.int ((100 * l1) + l2)), (S sl p I J))) := by
  refine (r_eq0 (dk D298 22 rfl) rfl).trans (ite2 ?_ ?_)
  · refine (r_inc (L' := [.ref 46, .int l1, .int (l2 + 1)]) (dk D298 29 rfl) rfl rfl ci1 (Nat.le_of_ble_eq_true rfl) rfl).trans ?_
    refine (r_goto (L' := [.ref 46, .int l1, .int (l2 + 1)]) (dk D298 30 rfl) rfl nd298_14 rfl).trans ?_
    exact rfl
  · refine (r_bp (dk D298 23 rfl) cb100).trans ?_
    refine (r_iln (dk D298 24 rfl) rfl).trans ?_
    refine (r_imul (dk D298 25 rfl)).trans ?_
    refine (r_iln (dk D298 26 rfl) rfl).trans ?_
    refine (r_iadd (dk D298 27 rfl)).trans ?_
    exact r_ret (dk D298 28 rfl) rt298
set_option maxRecDepth 20000 in
theorem D299 : dOK 299 [(0, .iload_n 1, 1), (1, .iconst 0, 1), (2, .iconst 3, 1), (3, .invokestatic 178, 3), (6, .ifCond .ne 9, 3), (9, .aload_n 0, 1), (10, .iconst 1, 1), (11, .invokevirtual 183, 3), (14, .ireturn, 1), (15, .aload_n 0, 1), (16, .invokevirtual 445, 3), (19, .iload_n 1, 1), (20, .ifCond .ne 20, 3), (23, .aload_n 0, 1), (24, .aload_n 0, 1), (25, .aload_n 0, 1), (26, .getfield 213, 3), (29, .aload_n 0, 1), (30, .getfield 19, 3), (33, .invokevirtual 448, 3), (36, .invokevirtual 193, 3), (39, .ireturn, 1), (40, .iload_n 1, 1), (41, .iconst 1, 1), (42, .if_icmp .ne 20, 3), (45, .aload_n 0, 1), (46, .aload_n 0, 1), (47, .aload_n 0, 1), (48, .getfield 213, 3), (51, .aload_n 0, 1), (52, .getfield 19, 3), (55, .invokevirtual 458, 3), (58, .invokevirtual 193, 3), (61, .ireturn, 1), (62, .iload_n 1, 1), (63, .iconst 2, 1), (64, .if_icmp .ne 20, 3), (67, .aload_n 0, 1), (68, .aload_n 0, 1), (69, .aload_n 0, 1), (70, .getfield 213, 3), (73, .aload_n 0, 1), (74, .getfield 19, 3), (77, .invokevirtual 461, 3), (80, .invokevirtual 193, 3), (83, .ireturn, 1), (84, .aload_n 0, 1), (85, .invokevirtual 464, 3), (88, .istore_n 2, 1), (89, .iload_n 2, 1), (90, .iconst (-1), 1), (91, .if_icmp .ne 11, 3), (94, .aload_n 0, 1), (95, .iconst 5, 1), (96, .invokevirtual 183, 3), (99, .goto 8, 3), (102, .aload_n 0, 1), (103, .iload_n 2, 1), (104, .invokevirtual 193, 3), (107, .ireturn, 1)] = true := by decide +kernel
theorem E299_0 {d sl : Nat} {p : Nat → Nat} {I : Nat → Nat → Int32} {J : Nat → Nat → Int64} (a1 : Int32)  : den (d + 1) 299 [.ref 46, .int a1] (S sl p I J) = evK (d + 1) 299 6 [.ref 46, .int a1, .retAddr 0] [] (den d 181 [.int a1, .int 0, .int 3] (S sl p I J)) := by
  refine (show den (d + 1) 299 [.ref 46, .int a1] (S sl p I J) = ev (d + 1) 299 0 [.ref 46, .int a1, .retAddr 0] [] (S sl p I J) from rfl).trans ?_
  refine (r_iln (dk D299 0 rfl) rfl).trans ?_
  refine (r_ic (dk D299 1 rfl) ci0).trans ?_
  refine (r_ic (dk D299 2 rfl) ci3).trans ?_
  exact r_cs (dk D299 3 rfl) ow299 pn12_178 c12_178 mf181 (Nat.le_of_ble_eq_true rfl) rfl rfl (Nat.le_of_ble_eq_true rfl) (Nat.le_of_ble_eq_true rfl)
theorem E299_6 {d sl : Nat} {p : Nat → Nat} {I : Nat → Nat → Int32} {J : Nat → Nat → Int64} (l1 : Int32) (s0 : Int32)  : ev (d + 1) 299 6 [.ref 46, .int l1, .retAddr 0] [.int s0] (S sl p I J) = (if s0 = 0 then evK (d + 1) 299 14 [.ref 46, .int l1, .retAddr 0] [] (den d 178 [.ref 46, .int 1] (S sl p I J)) else evK (d + 1) 299 19 [.ref 46, .int l1, .retAddr 0] [] (den d 292 [.ref 46] (S sl p I J))) := by
  refine (r_ne0 (dk D299 4 rfl) rfl).trans (ite2 ?_ ?_)
  · refine (r_aln (dk D299 5 rfl) rfl).trans ?_
    refine (r_ic (dk D299 6 rfl) ci1).trans ?_
    exact r_cv (dk D299 7 rfl) ow299 c12_183 mf178 (Nat.le_of_ble_eq_true rfl) rfl rfl (Nat.le_of_ble_eq_true rfl) (Nat.le_of_ble_eq_true rfl) ob_46
  · refine (r_aln (dk D299 9 rfl) rfl).trans ?_
    exact r_cv (dk D299 10 rfl) ow299 c12_445 mf292 (Nat.le_of_ble_eq_true rfl) rfl rfl (Nat.le_of_ble_eq_true rfl) (Nat.le_of_ble_eq_true rfl) ob_46
theorem E299_14 {d sl : Nat} {p : Nat → Nat} {I : Nat → Nat → Int32} {J : Nat → Nat → Int64} (l1 : Int32) (s0 : Int32)  : ev d 299 14 [.ref 46, .int l1, .retAddr 0] [.int s0] (S sl p I J) = some (some (.int s0), (S sl p I J)) := by
  exact r_ret (dk D299 8 rfl) rt299
theorem E299_19 {d sl : Nat} {p : Nat → Nat} {I : Nat → Nat → Int32} {J : Nat → Nat → Int64} (l1 : Int32)  : ev (d + 1) 299 19 [.ref 46, .int l1, .retAddr 0] [] (S sl p I J) = (if l1 = 0 then evK (d + 1) 299 36 [.ref 46, .int l1, .retAddr 0] [.ref 46] (den d 294 [.ref 46, .int (I 46 6), .int (I 46 7)] (S sl p I J)) else (if l1 = 1 then evK (d + 1) 299 58 [.ref 46, .int l1, .retAddr 0] [.ref 46] (den d 295 [.ref 46, .int (I 46 6), .int (I 46 7)] (S sl p I J)) else (if l1 = 2 then evK (d + 1) 299 80 [.ref 46, .int l1, .retAddr 0] [.ref 46] (den d 297 [.ref 46, .int (I 46 6), .int (I 46 7)] (S sl p I J)) else evK (d + 1) 299 88 [.ref 46, .int l1, .retAddr 0] [] (den d 298 [.ref 46] (S sl p I J))))) := by
  refine (r_iln (dk D299 11 rfl) rfl).trans ?_
  refine (r_ne0 (dk D299 12 rfl) rfl).trans (ite2 ?_ ?_)
  · refine (r_aln (dk D299 13 rfl) rfl).trans ?_
    refine (r_aln (dk D299 14 rfl) rfl).trans ?_
    refine (r_aln (dk D299 15 rfl) rfl).trans ?_
    refine (r_getI (dk D299 16 rfl) ow299 q12_213 ob_46).trans ?_
    refine (r_aln (dk D299 17 rfl) rfl).trans ?_
    refine (r_getI (dk D299 18 rfl) ow299 q12_19 ob_46).trans ?_
    exact r_cv (dk D299 19 rfl) ow299 c12_448 mf294 (Nat.le_of_ble_eq_true rfl) rfl rfl (Nat.le_of_ble_eq_true rfl) (Nat.le_of_ble_eq_true rfl) ob_46
  · refine (r_iln (dk D299 22 rfl) rfl).trans ?_
    refine (r_ic (dk D299 23 rfl) ci1).trans ?_
    refine (r_ne (dk D299 24 rfl) rfl).trans (ite2 ?_ ?_)
    · refine (r_aln (dk D299 25 rfl) rfl).trans ?_
      refine (r_aln (dk D299 26 rfl) rfl).trans ?_
      refine (r_aln (dk D299 27 rfl) rfl).trans ?_
      refine (r_getI (dk D299 28 rfl) ow299 q12_213 ob_46).trans ?_
      refine (r_aln (dk D299 29 rfl) rfl).trans ?_
      refine (r_getI (dk D299 30 rfl) ow299 q12_19 ob_46).trans ?_
      exact r_cv (dk D299 31 rfl) ow299 c12_458 mf295 (Nat.le_of_ble_eq_true rfl) rfl rfl (Nat.le_of_ble_eq_true rfl) (Nat.le_of_ble_eq_true rfl) ob_46
    · refine (r_iln (dk D299 34 rfl) rfl).trans ?_
      refine (r_ic (dk D299 35 rfl) ci2).trans ?_
      refine (r_ne (dk D299 36 rfl) rfl).trans (ite2 ?_ ?_)
      · refine (r_aln (dk D299 37 rfl) rfl).trans ?_
        refine (r_aln (dk D299 38 rfl) rfl).trans ?_
        refine (r_aln (dk D299 39 rfl) rfl).trans ?_
        refine (r_getI (dk D299 40 rfl) ow299 q12_213 ob_46).trans ?_
        refine (r_aln (dk D299 41 rfl) rfl).trans ?_
        refine (r_getI (dk D299 42 rfl) ow299 q12_19 ob_46).trans ?_
        exact r_cv (dk D299 43 rfl) ow299 c12_461 mf297 (Nat.le_of_ble_eq_true rfl) rfl rfl (Nat.le_of_ble_eq_true rfl) (Nat.le_of_ble_eq_true rfl) ob_46
      · refine (r_aln (dk D299 46 rfl) rfl).trans ?_
        exact r_cv (dk D299 47 rfl) ow299 c12_464 mf298 (Nat.le_of_ble_eq_true rfl) rfl rfl (Nat.le_of_ble_eq_true rfl) (Nat.le_of_ble_eq_true rfl) ob_46
theorem E299_36 {d sl : Nat} {p : Nat → Nat} {I : Nat → Nat → Int32} {J : Nat → Nat → Int64} (l1 : Int32) (s0 : Int32)  : ev (d + 1) 299 36 [.ref 46, .int l1, .retAddr 0] [.int s0, .ref 46] (S sl p I J) = evK (d + 1) 299 39 [.ref 46, .int l1, .retAddr 0] [] (den d 179 [.ref 46, .int s0] (S sl p I J)) := by
  exact r_cv (dk D299 20 rfl) ow299 c12_193 mf179 (Nat.le_of_ble_eq_true rfl) rfl rfl (Nat.le_of_ble_eq_true rfl) (Nat.le_of_ble_eq_true rfl) ob_46
theorem E299_39 {d sl : Nat} {p : Nat → Nat} {I : Nat → Nat → Int32} {J : Nat → Nat → Int64} (l1 : Int32) (s0 : Int32)  : ev d 299 39 [.ref 46, .int l1, .retAddr 0] [.int s0] (S sl p I J) = some (some (.int s0), (S sl p I J)) := by
  exact r_ret (dk D299 21 rfl) rt299
theorem E299_58 {d sl : Nat} {p : Nat → Nat} {I : Nat → Nat → Int32} {J : Nat → Nat → Int64} (l1 : Int32) (s0 : Int32)  : ev (d + 1) 299 58 [.ref 46, .int l1, .retAddr 0] [.int s0, .ref 46] (S sl p I J) = evK (d + 1) 299 61 [.ref 46, .int l1, .retAddr 0] [] (den d 179 [.ref 46, .int s0] (S sl p I J)) := by
  exact r_cv (dk D299 32 rfl) ow299 c12_193 mf179 (Nat.le_of_ble_eq_true rfl) rfl rfl (Nat.le_of_ble_eq_true rfl) (Nat.le_of_ble_eq_true rfl) ob_46
theorem E299_61 {d sl : Nat} {p : Nat → Nat} {I : Nat → Nat → Int32} {J : Nat → Nat → Int64} (l1 : Int32) (s0 : Int32)  : ev d 299 61 [.ref 46, .int l1, .retAddr 0] [.int s0] (S sl p I J) = some (some (.int s0), (S sl p I J)) := by
  exact r_ret (dk D299 33 rfl) rt299
theorem E299_80 {d sl : Nat} {p : Nat → Nat} {I : Nat → Nat → Int32} {J : Nat → Nat → Int64} (l1 : Int32) (s0 : Int32)  : ev (d + 1) 299 80 [.ref 46, .int l1, .retAddr 0] [.int s0, .ref 46] (S sl p I J) = evK (d + 1) 299 83 [.ref 46, .int l1, .retAddr 0] [] (den d 179 [.ref 46, .int s0] (S sl p I J)) := by
  exact r_cv (dk D299 44 rfl) ow299 c12_193 mf179 (Nat.le_of_ble_eq_true rfl) rfl rfl (Nat.le_of_ble_eq_true rfl) (Nat.le_of_ble_eq_true rfl) ob_46
theorem E299_83 {d sl : Nat} {p : Nat → Nat} {I : Nat → Nat → Int32} {J : Nat → Nat → Int64} (l1 : Int32) (s0 : Int32)  : ev d 299 83 [.ref 46, .int l1, .retAddr 0] [.int s0] (S sl p I J) = some (some (.int s0), (S sl p I J)) := by
  exact r_ret (dk D299 45 rfl) rt299
theorem E299_88 {d sl : Nat} {p : Nat → Nat} {I : Nat → Nat → Int32} {J : Nat → Nat → Int64} (l1 : Int32) (s0 : Int32)  : ev (d + 1) 299 88 [.ref 46, .int l1, .retAddr 0] [.int s0] (S sl p I J) = (if s0 = (-1) then evK (d + 1) 299 99 [.ref 46, .int l1, .int s0] [] (den d 178 [.ref 46, .int 5] (S sl p I J)) else evK (d + 1) 299 107 [.ref 46, .int l1, .int s0] [] (den d 179 [.ref 46, .int s0] (S sl p I J))) := by
  refine (r_isn (L' := [.ref 46, .int l1, .int s0]) (dk D299 48 rfl) (Nat.le_of_ble_eq_true rfl) rfl).trans ?_
  refine (r_iln (dk D299 49 rfl) rfl).trans ?_
  refine (r_ic (dk D299 50 rfl) cim1).trans ?_
  refine (r_ne (dk D299 51 rfl) rfl).trans (ite2 ?_ ?_)
  · refine (r_aln (dk D299 52 rfl) rfl).trans ?_
    refine (r_ic (dk D299 53 rfl) ci5).trans ?_
    exact r_cv (dk D299 54 rfl) ow299 c12_183 mf178 (Nat.le_of_ble_eq_true rfl) rfl rfl (Nat.le_of_ble_eq_true rfl) (Nat.le_of_ble_eq_true rfl) ob_46
  · refine (r_aln (dk D299 56 rfl) rfl).trans ?_
    refine (r_iln (dk D299 57 rfl) rfl).trans ?_
    exact r_cv (dk D299 58 rfl) ow299 c12_193 mf179 (Nat.le_of_ble_eq_true rfl) rfl rfl (Nat.le_of_ble_eq_true rfl) (Nat.le_of_ble_eq_true rfl) ob_46
theorem E299_99 {d sl : Nat} {p : Nat → Nat} {I : Nat → Nat → Int32} {J : Nat → Nat → Int64} (l1 : Int32) (l2 : Int32) (s0 : Int32)  : ev d 299 99 [.ref 46, .int l1, .int l2] [.int s0] (S sl p I J) = some (some (.int s0), (S sl p I J)) := by
  refine (r_goto (L' := [.ref 46, .int l1, .int l2]) (dk D299 55 rfl) rfl nd299_107 rfl).trans ?_
  exact r_ret (dk D299 59 rfl) rt299
theorem E299_107 {d sl : Nat} {p : Nat → Nat} {I : Nat → Nat → Int32} {J : Nat → Nat → Int64} (l1 : Int32) (l2 : Int32) (s0 : Int32)  : ev d 299 107 [.ref 46, .int l1, .int l2] [.int s0] (S sl p I J) = some (some (.int s0), (S sl p I J)) := by
  exact r_ret (dk D299 59 rfl) rt299
set_option maxRecDepth 20000 in
theorem D300 : dOK 300 [(0, .aload_n 0, 1), (1, .invokevirtual 445, 3), (4, .aload_n 0, 1), (5, .iload_n 1, 1), (6, .invokevirtual 324, 3), (9, .ifCond .ne 9, 3), (12, .aload_n 0, 1), (13, .iconst 2, 1), (14, .invokevirtual 183, 3), (17, .ireturn, 1), (18, .aload_n 0, 1), (19, .getfield 99, 3), (22, .iload_n 1, 1), (23, .iaload, 1), (24, .ifCond .ne 9, 3), (27, .aload_n 0, 1), (28, .iconst 5, 1), (29, .invokevirtual 183, 3), (32, .ireturn, 1), (33, .aload_n 0, 1), (34, .ldc2_w 307, 3), (37, .aload_n 0, 1), (38, .getfield 22, 3), (41, .invokestatic 111, 3), (44, .i2l, 1), (45, .lmul, 1), (46, .aload_n 0, 1), (47, .getfield 99, 3), (50, .iload_n 1, 1), (51, .iaload, 1), (52, .invokestatic 124, 3), (55, .i2l, 1), (56, .lmul, 1), (57, .aload_n 0, 1), (58, .getfield 22, 3), (61, .invokestatic 124, 3), (64, .aload_n 0, 1), (65, .getfield 99, 3), (68, .iload_n 1, 1), (69, .iaload, 1), (70, .invokestatic 111, 3), (73, .imul, 1), (74, .i2l, 1), (75, .ldiv, 1), (76, .l2i, 1), (77, .invokevirtual 193, 3), (80, .ireturn, 1)] = true := by decide +kernel
theorem E300_0 {d sl : Nat} {p : Nat → Nat} {I : Nat → Nat → Int32} {J : Nat → Nat → Int64} (a1 : Int32)  : den (d + 1) 300 [.ref 46, .int a1] (S sl p I J) = evK (d + 1) 300 4 [.ref 46, .int a1] [] (den d 292 [.ref 46] (S sl p I J)) := by
  refine (show den (d + 1) 300 [.ref 46, .int a1] (S sl p I J) = ev (d + 1) 300 0 [.ref 46, .int a1] [] (S sl p I J) from rfl).trans ?_
  refine (r_aln (dk D300 0 rfl) rfl).trans ?_
  exact r_cv (dk D300 1 rfl) ow300 c12_445 mf292 (Nat.le_of_ble_eq_true rfl) rfl rfl (Nat.le_of_ble_eq_true rfl) (Nat.le_of_ble_eq_true rfl) ob_46
theorem E300_4 {d sl : Nat} {p : Nat → Nat} {I : Nat → Nat → Int32} {J : Nat → Nat → Int64} (l1 : Int32)  : ev (d + 1) 300 4 [.ref 46, .int l1] [] (S sl p I J) = evK (d + 1) 300 9 [.ref 46, .int l1] [] (den d 235 [.ref 46, .int l1] (S sl p I J)) := by
  refine (r_aln (dk D300 2 rfl) rfl).trans ?_
  refine (r_iln (dk D300 3 rfl) rfl).trans ?_
  exact r_cv (dk D300 4 rfl) ow300 c12_324 mf235 (Nat.le_of_ble_eq_true rfl) rfl rfl (Nat.le_of_ble_eq_true rfl) (Nat.le_of_ble_eq_true rfl) ob_46
theorem E300_9 {d sl : Nat} {p : Nat → Nat} {I : Nat → Nat → Int32} {J : Nat → Nat → Int64} (l1 : Int32) (s0 : Int32)  : ev (d + 1) 300 9 [.ref 46, .int l1] [.int s0] (S sl p I J) = (if s0 = 0 then evK (d + 1) 300 17 [.ref 46, .int l1] [] (den d 178 [.ref 46, .int 2] (S sl p I J)) else ck (ixb 30 l1) ((if (I 70 (Int32.toNatClampNeg l1)) = 0 then evK (d + 1) 300 32 [.ref 46, .int l1] [] (den d 178 [.ref 46, .int 5] (S sl p I J)) else evK (d + 1) 300 44 [.ref 46, .int l1] [.long 100, .ref 46] (den d 182 [.int (I 46 8)] (S sl p I J))))) := by
  refine (r_ne0 (dk D300 5 rfl) rfl).trans (ite2 ?_ ?_)
  · refine (r_aln (dk D300 6 rfl) rfl).trans ?_
    refine (r_ic (dk D300 7 rfl) ci2).trans ?_
    exact r_cv (dk D300 8 rfl) ow300 c12_183 mf178 (Nat.le_of_ble_eq_true rfl) rfl rfl (Nat.le_of_ble_eq_true rfl) (Nat.le_of_ble_eq_true rfl) ob_46
  · refine (r_aln (dk D300 10 rfl) rfl).trans ?_
    refine (r_getR (dk D300 11 rfl) ow300 q12_99 ob_46 rfl).trans ?_
    refine (r_iln (dk D300 12 rfl) rfl).trans ?_
    refine (r_ild (dk D300 13 rfl) ar_70).trans (ck3 fun g1 => ?_)
    refine (r_ne0 (dk D300 14 rfl) rfl).trans (ite2 ?_ ?_)
    · refine (r_aln (dk D300 15 rfl) rfl).trans ?_
      refine (r_ic (dk D300 16 rfl) ci5).trans ?_
      exact r_cv (dk D300 17 rfl) ow300 c12_183 mf178 (Nat.le_of_ble_eq_true rfl) rfl rfl (Nat.le_of_ble_eq_true rfl) (Nat.le_of_ble_eq_true rfl) ob_46
    · refine (r_aln (dk D300 19 rfl) rfl).trans ?_
      refine (r_ld2 (dk D300 20 rfl) ow300 kk12_307).trans ?_
      refine (r_aln (dk D300 21 rfl) rfl).trans ?_
      refine (r_getI (dk D300 22 rfl) ow300 q12_22 ob_46).trans ?_
      exact r_cs (dk D300 23 rfl) ow300 pn12_111 c12_111 mf182 (Nat.le_of_ble_eq_true rfl) rfl rfl (Nat.le_of_ble_eq_true rfl) (Nat.le_of_ble_eq_true rfl)
theorem E300_17 {d sl : Nat} {p : Nat → Nat} {I : Nat → Nat → Int32} {J : Nat → Nat → Int64} (l1 : Int32) (s0 : Int32)  : ev d 300 17 [.ref 46, .int l1] [.int s0] (S sl p I J) = some (some (.int s0), (S sl p I J)) := by
  exact r_ret (dk D300 9 rfl) rt300
theorem E300_32 {d sl : Nat} {p : Nat → Nat} {I : Nat → Nat → Int32} {J : Nat → Nat → Int64} (l1 : Int32) (s0 : Int32)  : ev d 300 32 [.ref 46, .int l1] [.int s0] (S sl p I J) = some (some (.int s0), (S sl p I J)) := by
  exact r_ret (dk D300 18 rfl) rt300
theorem E300_44 {d sl : Nat} {p : Nat → Nat} {I : Nat → Nat → Int32} {J : Nat → Nat → Int64} (l1 : Int32) (s0 : Int32) (s1 : Int64)  : ev (d + 1) 300 44 [.ref 46, .int l1] [.int s0, .long s1, .ref 46] (S sl p I J) = ck (ixb 30 l1) (evK (d + 1) 300 55 [.ref 46, .int l1] [.long (s1 * (Int32.toInt64 s0)), .ref 46] (den d 183 [.int (I 70 (Int32.toNatClampNeg l1))] (S sl p I J))) := by
  refine (r_i2l (dk D300 24 rfl)).trans ?_
  refine (r_lmul (dk D300 25 rfl)).trans ?_
  refine (r_aln (dk D300 26 rfl) rfl).trans ?_
  refine (r_getR (dk D300 27 rfl) ow300 q12_99 ob_46 rfl).trans ?_
  refine (r_iln (dk D300 28 rfl) rfl).trans ?_
  refine (r_ild (dk D300 29 rfl) ar_70).trans (ck3 fun g1 => ?_)
  exact r_cs (dk D300 30 rfl) ow300 pn12_124 c12_124 mf183 (Nat.le_of_ble_eq_true rfl) rfl rfl (Nat.le_of_ble_eq_true rfl) (Nat.le_of_ble_eq_true rfl)
theorem E300_55 {d sl : Nat} {p : Nat → Nat} {I : Nat → Nat → Int32} {J : Nat → Nat → Int64} (l1 : Int32) (s0 : Int32) (s1 : Int64)  : ev (d + 1) 300 55 [.ref 46, .int l1] [.int s0, .long s1, .ref 46] (S sl p I J) = evK (d + 1) 300 64 [.ref 46, .int l1] [.long (s1 * (Int32.toInt64 s0)), .ref 46] (den d 183 [.int (I 46 8)] (S sl p I J)) := by
  refine (r_i2l (dk D300 31 rfl)).trans ?_
  refine (r_lmul (dk D300 32 rfl)).trans ?_
  refine (r_aln (dk D300 33 rfl) rfl).trans ?_
  refine (r_getI (dk D300 34 rfl) ow300 q12_22 ob_46).trans ?_
  exact r_cs (dk D300 35 rfl) ow300 pn12_124 c12_124 mf183 (Nat.le_of_ble_eq_true rfl) rfl rfl (Nat.le_of_ble_eq_true rfl) (Nat.le_of_ble_eq_true rfl)
theorem E300_64 {d sl : Nat} {p : Nat → Nat} {I : Nat → Nat → Int32} {J : Nat → Nat → Int64} (l1 : Int32) (s0 : Int32) (s1 : Int64)  : ev (d + 1) 300 64 [.ref 46, .int l1] [.int s0, .long s1, .ref 46] (S sl p I J) = ck (ixb 30 l1) (evK (d + 1) 300 73 [.ref 46, .int l1] [.int s0, .long s1, .ref 46] (den d 182 [.int (I 70 (Int32.toNatClampNeg l1))] (S sl p I J))) := by
  refine (r_aln (dk D300 36 rfl) rfl).trans ?_
  refine (r_getR (dk D300 37 rfl) ow300 q12_99 ob_46 rfl).trans ?_
  refine (r_iln (dk D300 38 rfl) rfl).trans ?_
  refine (r_ild (dk D300 39 rfl) ar_70).trans (ck3 fun g1 => ?_)
  exact r_cs (dk D300 40 rfl) ow300 pn12_111 c12_111 mf182 (Nat.le_of_ble_eq_true rfl) rfl rfl (Nat.le_of_ble_eq_true rfl) (Nat.le_of_ble_eq_true rfl)
theorem E300_73 {d sl : Nat} {p : Nat → Nat} {I : Nat → Nat → Int32} {J : Nat → Nat → Int64} (l1 : Int32) (s0 : Int32) (s1 : Int32) (s2 : Int64)  : ev (d + 1) 300 73 [.ref 46, .int l1] [.int s0, .int s1, .long s2, .ref 46] (S sl p I J) = ck (!decide ((Int32.toInt64 (s1 * s0)) = 0)) (evK (d + 1) 300 80 [.ref 46, .int l1] [] (den d 179 [.ref 46, .int (Int64.toInt32 (s2 / (Int32.toInt64 (s1 * s0))))] (S sl p I J))) := by
  refine (r_imul (dk D300 41 rfl)).trans ?_
  refine (r_i2l (dk D300 42 rfl)).trans ?_
  refine (r_ldivc (dk D300 43 rfl)).trans (ck3 fun g1 => ?_)
  refine (r_l2i (dk D300 44 rfl)).trans ?_
  exact r_cv (dk D300 45 rfl) ow300 c12_193 mf179 (Nat.le_of_ble_eq_true rfl) rfl rfl (Nat.le_of_ble_eq_true rfl) (Nat.le_of_ble_eq_true rfl) ob_46
theorem E300_80 {d sl : Nat} {p : Nat → Nat} {I : Nat → Nat → Int32} {J : Nat → Nat → Int64} (l1 : Int32) (s0 : Int32)  : ev d 300 80 [.ref 46, .int l1] [.int s0] (S sl p I J) = some (some (.int s0), (S sl p I J)) := by
  exact r_ret (dk D300 46 rfl) rt300
set_option maxRecDepth 20000 in
theorem D301 : dOK 301 [(0, .aload_n 0, 1), (1, .iload_n 1, 1), (2, .iload_n 2, 1), (3, .invokevirtual 448, 3), (6, .invokestatic 223, 3), (9, .aload_n 0, 1), (10, .iload_n 1, 1), (11, .iload_n 2, 1), (12, .invokevirtual 458, 3), (15, .invokestatic 223, 3), (18, .iadd, 1), (19, .aload_n 0, 1), (20, .iload_n 1, 1), (21, .iload_n 2, 1), (22, .invokevirtual 461, 3), (25, .iadd, 1), (26, .ireturn, 1)] = true := by decide +kernel
theorem E301_0 {d sl : Nat} {p : Nat → Nat} {I : Nat → Nat → Int32} {J : Nat → Nat → Int64} (a1 : Int32) (a2 : Int32)  : den (d + 1) 301 [.ref 46, .int a1, .int a2] (S sl p I J) = evK (d + 1) 301 6 [.ref 46, .int a1, .int a2] [] (den d 294 [.ref 46, .int a1, .int a2] (S sl p I J)) := by
  refine (show den (d + 1) 301 [.ref 46, .int a1, .int a2] (S sl p I J) = ev (d + 1) 301 0 [.ref 46, .int a1, .int a2] [] (S sl p I J) from rfl).trans ?_
  refine (r_aln (dk D301 0 rfl) rfl).trans ?_
  refine (r_iln (dk D301 1 rfl) rfl).trans ?_
  refine (r_iln (dk D301 2 rfl) rfl).trans ?_
  exact r_cv (dk D301 3 rfl) ow301 c12_448 mf294 (Nat.le_of_ble_eq_true rfl) rfl rfl (Nat.le_of_ble_eq_true rfl) (Nat.le_of_ble_eq_true rfl) ob_46
theorem E301_6 {d sl : Nat} {p : Nat → Nat} {I : Nat → Nat → Int32} {J : Nat → Nat → Int64} (l1 : Int32) (l2 : Int32) (s0 : Int32)  : ev (d + 1) 301 6 [.ref 46, .int l1, .int l2] [.int s0] (S sl p I J) = evK (d + 1) 301 9 [.ref 46, .int l1, .int l2] [] (den d 291 [.int s0] (S sl p I J)) := by
  exact r_cs (dk D301 4 rfl) ow301 pn12_223 c12_223 mf291 (Nat.le_of_ble_eq_true rfl) rfl rfl (Nat.le_of_ble_eq_true rfl) (Nat.le_of_ble_eq_true rfl)
theorem E301_9 {d sl : Nat} {p : Nat → Nat} {I : Nat → Nat → Int32} {J : Nat → Nat → Int64} (l1 : Int32) (l2 : Int32) (s0 : Int32)  : ev (d + 1) 301 9 [.ref 46, .int l1, .int l2] [.int s0] (S sl p I J) = evK (d + 1) 301 15 [.ref 46, .int l1, .int l2] [.int s0] (den d 295 [.ref 46, .int l1, .int l2] (S sl p I J)) := by
  refine (r_aln (dk D301 5 rfl) rfl).trans ?_
  refine (r_iln (dk D301 6 rfl) rfl).trans ?_
  refine (r_iln (dk D301 7 rfl) rfl).trans ?_
  exact r_cv (dk D301 8 rfl) ow301 c12_458 mf295 (Nat.le_of_ble_eq_true rfl) rfl rfl (Nat.le_of_ble_eq_true rfl) (Nat.le_of_ble_eq_true rfl) ob_46
theorem E301_15 {d sl : Nat} {p : Nat → Nat} {I : Nat → Nat → Int32} {J : Nat → Nat → Int64} (l1 : Int32) (l2 : Int32) (s0 : Int32) (s1 : Int32)  : ev (d + 1) 301 15 [.ref 46, .int l1, .int l2] [.int s0, .int s1] (S sl p I J) = evK (d + 1) 301 18 [.ref 46, .int l1, .int l2] [.int s1] (den d 291 [.int s0] (S sl p I J)) := by
  exact r_cs (dk D301 9 rfl) ow301 pn12_223 c12_223 mf291 (Nat.le_of_ble_eq_true rfl) rfl rfl (Nat.le_of_ble_eq_true rfl) (Nat.le_of_ble_eq_true rfl)
theorem E301_18 {d sl : Nat} {p : Nat → Nat} {I : Nat → Nat → Int32} {J : Nat → Nat → Int64} (l1 : Int32) (l2 : Int32) (s0 : Int32) (s1 : Int32)  : ev (d + 1) 301 18 [.ref 46, .int l1, .int l2] [.int s0, .int s1] (S sl p I J) = evK (d + 1) 301 25 [.ref 46, .int l1, .int l2] [.int (s1 + s0)] (den d 297 [.ref 46, .int l1, .int l2] (S sl p I J)) := by
  refine (r_iadd (dk D301 10 rfl)).trans ?_
  refine (r_aln (dk D301 11 rfl) rfl).trans ?_
  refine (r_iln (dk D301 12 rfl) rfl).trans ?_
  refine (r_iln (dk D301 13 rfl) rfl).trans ?_
  exact r_cv (dk D301 14 rfl) ow301 c12_461 mf297 (Nat.le_of_ble_eq_true rfl) rfl rfl (Nat.le_of_ble_eq_true rfl) (Nat.le_of_ble_eq_true rfl) ob_46
theorem E301_25 {d sl : Nat} {p : Nat → Nat} {I : Nat → Nat → Int32} {J : Nat → Nat → Int64} (l1 : Int32) (l2 : Int32) (s0 : Int32) (s1 : Int32)  : ev d 301 25 [.ref 46, .int l1, .int l2] [.int s0, .int s1] (S sl p I J) = some (some (.int (s1 + s0)), (S sl p I J)) := by
  refine (r_iadd (dk D301 15 rfl)).trans ?_
  exact r_ret (dk D301 16 rfl) rt301
set_option maxRecDepth 20000 in
theorem D302 : dOK 302 [(0, .iload_n 1, 1), (1, .iconst 0, 1), (2, .iconst 1, 1), (3, .invokestatic 178, 3), (6, .ifCond .ne 9, 3), (9, .aload_n 0, 1), (10, .iconst 1, 1), (11, .invokevirtual 183, 3), (14, .ireturn, 1), (15, .aload_n 0, 1), (16, .invokevirtual 445, 3), (19, .iconst 0, 1), (20, .istore_n 2, 1), (21, .bipush 10, 2), (23, .istore_n 3, 1), (24, .iload_n 3, 1), (25, .sipush 360, 3), (28, .if_icmp .ge 36, 3), (31, .aload_n 0, 1), (32, .iload_n 3, 1), (33, .aload_n 0, 1), (34, .getfield 19, 3), (37, .invokevirtual 467, 3), (40, .aload_n 0, 1), (41, .iload_n 2, 1), (42, .aload_n 0, 1), (43, .getfield 19, 3), (46, .invokevirtual 467, 3), (49, .if_icmp .ge 7, 3), (52, .iload_n 3, 1), (53, .goto 4, 3), (56, .iload_n 2, 1), (57, .istore_n 2, 1), (58, .iinc 3 10, 3), (61, .goto (-37), 3), (64, .aload_n 0, 1), (65, .iload_n 1, 1), (66, .ifCond .ne 7, 3), (69, .iload_n 2, 1), (70, .goto 12, 3), (73, .aload_n 0, 1), (74, .iload_n 2, 1), (75, .aload_n 0, 1), (76, .getfield 19, 3), (79, .invokevirtual 467, 3), (82, .invokevirtual 193, 3), (85, .ireturn, 1)] = true := by decide +kernel
theorem E302_0 {d sl : Nat} {p : Nat → Nat} {I : Nat → Nat → Int32} {J : Nat → Nat → Int64} (a1 : Int32)  : den (d + 1) 302 [.ref 46, .int a1] (S sl p I J) = evK (d + 1) 302 6 [.ref 46, .int a1, .retAddr 0, .retAddr 0] [] (den d 181 [.int a1, .int 0, .int 1] (S sl p I J)) := by
  refine (show den (d + 1) 302 [.ref 46, .int a1] (S sl p I J) = ev (d + 1) 302 0 [.ref 46, .int a1, .retAddr 0, .retAddr 0] [] (S sl p I J) from rfl).trans ?_
  refine (r_iln (dk D302 0 rfl) rfl).trans ?_
  refine (r_ic (dk D302 1 rfl) ci0).trans ?_
  refine (r_ic (dk D302 2 rfl) ci1).trans ?_
  exact r_cs (dk D302 3 rfl) ow302 pn12_178 c12_178 mf181 (Nat.le_of_ble_eq_true rfl) rfl rfl (Nat.le_of_ble_eq_true rfl) (Nat.le_of_ble_eq_true rfl)
theorem E302_6 {d sl : Nat} {p : Nat → Nat} {I : Nat → Nat → Int32} {J : Nat → Nat → Int64} (l1 : Int32) (s0 : Int32)  : ev (d + 1) 302 6 [.ref 46, .int l1, .retAddr 0, .retAddr 0] [.int s0] (S sl p I J) = (if s0 = 0 then evK (d + 1) 302 14 [.ref 46, .int l1, .retAddr 0, .retAddr 0] [] (den d 178 [.ref 46, .int 1] (S sl p I J)) else evK (d + 1) 302 19 [.ref 46, .int l1, .retAddr 0, .retAddr 0] [] (den d 292 [.ref 46] (S sl p I J))) := by
  refine (r_ne0 (dk D302 4 rfl) rfl).trans (ite2 ?_ ?_)
  · refine (r_aln (dk D302 5 rfl) rfl).trans ?_
    refine (r_ic (dk D302 6 rfl) ci1).trans ?_
    exact r_cv (dk D302 7 rfl) ow302 c12_183 mf178 (Nat.le_of_ble_eq_true rfl) rfl rfl (Nat.le_of_ble_eq_true rfl) (Nat.le_of_ble_eq_true rfl) ob_46
  · refine (r_aln (dk D302 9 rfl) rfl).trans ?_
    exact r_cv (dk D302 10 rfl) ow302 c12_445 mf292 (Nat.le_of_ble_eq_true rfl) rfl rfl (Nat.le_of_ble_eq_true rfl) (Nat.le_of_ble_eq_true rfl) ob_46
theorem E302_14 {d sl : Nat} {p : Nat → Nat} {I : Nat → Nat → Int32} {J : Nat → Nat → Int64} (l1 : Int32) (s0 : Int32)  : ev d 302 14 [.ref 46, .int l1, .retAddr 0, .retAddr 0] [.int s0] (S sl p I J) = some (some (.int s0), (S sl p I J)) := by
  exact r_ret (dk D302 8 rfl) rt302
theorem E302_19 {d sl : Nat} {p : Nat → Nat} {I : Nat → Nat → Int32} {J : Nat → Nat → Int64} (l1 : Int32)  : ev d 302 19 [.ref 46, .int l1, .retAddr 0, .retAddr 0] [] (S sl p I J) = ev d 302 24 [.ref 46, .int l1, .int 0, .int 10] [] (S sl p I J) := by
  refine (r_ic (dk D302 11 rfl) ci0).trans ?_
  refine (r_isn (L' := [.ref 46, .int l1, .int 0, .retAddr 0]) (dk D302 12 rfl) (Nat.le_of_ble_eq_true rfl) rfl).trans ?_
  refine (r_bp (dk D302 13 rfl) cb10).trans ?_
  refine (r_isn (L' := [.ref 46, .int l1, .int 0, .int 10]) (dk D302 14 rfl) (Nat.le_of_ble_eq_true rfl) rfl).trans ?_
  exact rfl
theorem E302_24 {d sl : Nat} {p : Nat → Nat} {I : Nat → Nat → Int32} {J : Nat → Nat → Int64} (l1 : Int32) (l2 : Int32) (l3 : Int32)  : ev (d + 1) 302 24 [.ref 46, .int l1, .int l2, .int l3] [] (S sl p I J) = (if l3 < 360 then evK (d + 1) 302 40 [.ref 46, .int l1, .int l2, .int l3] [] (den d 301 [.ref 46, .int l3, .int (I 46 7)] (S sl p I J)) else (if l1 = 0 then ev (d + 1) 302 82 [.ref 46, .int l1, .int l2, .int l3] [.int l2, .ref 46] (S sl p I J) else evK (d + 1) 302 82 [.ref 46, .int l1, .int l2, .int l3] [.ref 46] (den d 301 [.ref 46, .int l2, .int (I 46 7)] (S sl p I J)))) := by
  refine (r_iln (dk D302 15 rfl) rfl).trans ?_
  refine (r_sp (dk D302 16 rfl) cs360).trans ?_
  refine (r_ge (dk D302 17 rfl) rfl).trans (ite2 ?_ ?_)
  · refine (r_aln (dk D302 18 rfl) rfl).trans ?_
    refine (r_iln (dk D302 19 rfl) rfl).trans ?_
    refine (r_aln (dk D302 20 rfl) rfl).trans ?_
    refine (r_getI (dk D302 21 rfl) ow302 q12_19 ob_46).trans ?_
    exact r_cv (dk D302 22 rfl) ow302 c12_467 mf301 (Nat.le_of_ble_eq_true rfl) rfl rfl (Nat.le_of_ble_eq_true rfl) (Nat.le_of_ble_eq_true rfl) ob_46
  · refine (r_aln (dk D302 35 rfl) rfl).trans ?_
    refine (r_iln (dk D302 36 rfl) rfl).trans ?_
    refine (r_ne0 (dk D302 37 rfl) rfl).trans (ite2 ?_ ?_)
    · refine (r_iln (dk D302 38 rfl) rfl).trans ?_
      refine (r_goto (L' := [.ref 46, .int l1, .int l2, .int l3]) (dk D302 39 rfl) rfl nd302_82 rfl).trans ?_
      exact rfl
    · refine (r_aln (dk D302 40 rfl) rfl).trans ?_
      refine (r_iln (dk D302 41 rfl) rfl).trans ?_
      refine (r_aln (dk D302 42 rfl) rfl).trans ?_
      refine (r_getI (dk D302 43 rfl) ow302 q12_19 ob_46).trans ?_
      exact r_cv (dk D302 44 rfl) ow302 c12_467 mf301 (Nat.le_of_ble_eq_true rfl) rfl rfl (Nat.le_of_ble_eq_true rfl) (Nat.le_of_ble_eq_true rfl) ob_46
theorem E302_40 {d sl : Nat} {p : Nat → Nat} {I : Nat → Nat → Int32} {J : Nat → Nat → Int64} (l1 : Int32) (l2 : Int32) (l3 : Int32) (s0 : Int32)  : ev (d + 1) 302 40 [.ref 46, .int l1, .int l2, .int l3] [.int s0] (S sl p I J) = evK (d + 1) 302 49 [.ref 46, .int l1, .int l2, .int l3] [.int s0] (den d 301 [.ref 46, .int l2, .int (I 46 7)] (S sl p I J)) := by
  refine (r_aln (dk D302 23 rfl) rfl).trans ?_
  refine (r_iln (dk D302 24 rfl) rfl).trans ?_
  refine (r_aln (dk D302 25 rfl) rfl).trans ?_
  refine (r_getI (dk D302 26 rfl) ow302 q12_19 ob_46).trans ?_
  exact r_cv (dk D302 27 rfl) ow302 c12_467 mf301 (Nat.le_of_ble_eq_true rfl) rfl rfl (Nat.le_of_ble_eq_true rfl) (Nat.le_of_ble_eq_true rfl) ob_46
theorem E302_49 {d sl : Nat} {p : Nat → Nat} {I : Nat → Nat → Int32} {J : Nat → Nat → Int64} (l1 : Int32) (l2 : Int32) (l3 : Int32) (s0 : Int32) (s1 : Int32)  : ev d 302 49 [.ref 46, .int l1, .int l2, .int l3] [.int s0, .int s1] (S sl p I J) = (if s1 < s0 then ev d 302 24 [.ref 46, .int l1, .int l3, .int (l3 + 10)] [] (S sl p I J) else ev d 302 24 [.ref 46, .int l1, .int l2, .int (l3 + 10)] [] (S sl p I J)) := by
  refine (r_ge (dk D302 28 rfl) rfl).trans (ite2 ?_ ?_)
  · refine (r_iln (dk D302 29 rfl) rfl).trans ?_
    refine (r_goto (L' := [.ref 46, .int l1, .int l2, .int l3]) (dk D302 30 rfl) rfl nd302_57 rfl).trans ?_
    refine (r_isn (L' := [.ref 46, .int l1, .int l3, .int l3]) (dk D302 32 rfl) (Nat.le_of_ble_eq_true rfl) rfl).trans ?_
    refine (r_inc (L' := [.ref 46, .int l1, .int l3, .int (l3 + 10)]) (dk D302 33 rfl) rfl rfl ci10 (Nat.le_of_ble_eq_true rfl) rfl).trans ?_
    refine (r_goto (L' := [.ref 46, .int l1, .int l3, .int (l3 + 10)]) (dk D302 34 rfl) rfl nd302_24 rfl).trans ?_
    exact rfl
  · refine (r_iln (dk D302 31 rfl) rfl).trans ?_
    refine (r_isn (L' := [.ref 46, .int l1, .int l2, .int l3]) (dk D302 32 rfl) (Nat.le_of_ble_eq_true rfl) rfl).trans ?_
    refine (r_inc (L' := [.ref 46, .int l1, .int l2, .int (l3 + 10)]) (dk D302 33 rfl) rfl rfl ci10 (Nat.le_of_ble_eq_true rfl) rfl).trans ?_
    refine (r_goto (L' := [.ref 46, .int l1, .int l2, .int (l3 + 10)]) (dk D302 34 rfl) rfl nd302_24 rfl).trans ?_
    exact rfl
theorem E302_82 {d sl : Nat} {p : Nat → Nat} {I : Nat → Nat → Int32} {J : Nat → Nat → Int64} (l1 : Int32) (l2 : Int32) (l3 : Int32) (s0 : Int32)  : ev (d + 1) 302 82 [.ref 46, .int l1, .int l2, .int l3] [.int s0, .ref 46] (S sl p I J) = evK (d + 1) 302 85 [.ref 46, .int l1, .int l2, .int l3] [] (den d 179 [.ref 46, .int s0] (S sl p I J)) := by
  exact r_cv (dk D302 45 rfl) ow302 c12_193 mf179 (Nat.le_of_ble_eq_true rfl) rfl rfl (Nat.le_of_ble_eq_true rfl) (Nat.le_of_ble_eq_true rfl) ob_46
theorem E302_85 {d sl : Nat} {p : Nat → Nat} {I : Nat → Nat → Int32} {J : Nat → Nat → Int64} (l1 : Int32) (l2 : Int32) (l3 : Int32) (s0 : Int32)  : ev d 302 85 [.ref 46, .int l1, .int l2, .int l3] [.int s0] (S sl p I J) = some (some (.int s0), (S sl p I J)) := by
  exact r_ret (dk D302 46 rfl) rt302
set_option maxRecDepth 20000 in
theorem D303 : dOK 303 [(0, .aload_n 0, 1), (1, .invokevirtual 445, 3), (4, .iconst 0, 1), (5, .istore_n 1, 1), (6, .iload_n 1, 1), (7, .bipush 90, 2), (9, .if_icmp .ge 23, 3), (12, .aload_n 0, 1), (13, .aload_n 0, 1), (14, .getfield 213, 3), (17, .iload_n 1, 1), (18, .iconst 1, 1), (19, .iadd, 1), (20, .invokevirtual 467, 3), (23, .ifCond .ne 9, 3), (26, .iinc 1 1, 3), (29, .goto (-23), 3), (32, .aload_n 0, 1), (33, .iload_n 1, 1), (34, .invokevirtual 193, 3), (37, .ireturn, 1)] = true := by decide +kernel
theorem E303_0 {d sl : Nat} {p : Nat → Nat} {I : Nat → Nat → Int32} {J : Nat → Nat → Int64}   : den (d + 1) 303 [.ref 46] (S sl p I J) = evK (d + 1) 303 4 [.ref 46, .retAddr 0] [] (den d 292 [.ref 46] (S sl p I J)) := by
  refine (show den (d + 1) 303 [.ref 46] (S sl p I J) = ev (d + 1) 303 0 [.ref 46, .retAddr 0] [] (S sl p I J) from rfl).trans ?_
  refine (r_aln (dk D303 0 rfl) rfl).trans ?_
  exact r_cv (dk D303 1 rfl) ow303 c12_445 mf292 (Nat.le_of_ble_eq_true rfl) rfl rfl (Nat.le_of_ble_eq_true rfl) (Nat.le_of_ble_eq_true rfl) ob_46
theorem E303_4 {d sl : Nat} {p : Nat → Nat} {I : Nat → Nat → Int32} {J : Nat → Nat → Int64}   : ev d 303 4 [.ref 46, .retAddr 0] [] (S sl p I J) = ev d 303 6 [.ref 46, .int 0] [] (S sl p I J) := by
  refine (r_ic (dk D303 2 rfl) ci0).trans ?_
  refine (r_isn (L' := [.ref 46, .int 0]) (dk D303 3 rfl) (Nat.le_of_ble_eq_true rfl) rfl).trans ?_
  exact rfl
theorem E303_6 {d sl : Nat} {p : Nat → Nat} {I : Nat → Nat → Int32} {J : Nat → Nat → Int64} (l1 : Int32)  : ev (d + 1) 303 6 [.ref 46, .int l1] [] (S sl p I J) = (if l1 < 90 then evK (d + 1) 303 23 [.ref 46, .int l1] [] (den d 301 [.ref 46, .int (I 46 6), .int (l1 + 1)] (S sl p I J)) else ev (d + 1) 303 32 [.ref 46, .int l1] [] (S sl p I J)) := by
  refine (r_iln (dk D303 4 rfl) rfl).trans ?_
  refine (r_bp (dk D303 5 rfl) cb90).trans ?_
  refine (r_ge (dk D303 6 rfl) rfl).trans (ite2 ?_ ?_)
  · refine (r_aln (dk D303 7 rfl) rfl).trans ?_
    refine (r_aln (dk D303 8 rfl) rfl).trans ?_
    refine (r_getI (dk D303 9 rfl) ow303 q12_213 ob_46).trans ?_
    refine (r_iln (dk D303 10 rfl) rfl).trans ?_
    refine (r_ic (dk D303 11 rfl) ci1).trans ?_
    refine (r_iadd (dk D303 12 rfl)).trans ?_
    exact r_cv (dk D303 13 rfl) ow303 c12_467 mf301 (Nat.le_of_ble_eq_true rfl) rfl rfl (Nat.le_of_ble_eq_true rfl) (Nat.le_of_ble_eq_true rfl) ob_46
  · exact rfl
theorem E303_23 {d sl : Nat} {p : Nat → Nat} {I : Nat → Nat → Int32} {J : Nat → Nat → Int64} (l1 : Int32) (s0 : Int32)  : ev d 303 23 [.ref 46, .int l1] [.int s0] (S sl p I J) = (if s0 = 0 then ev d 303 6 [.ref 46, .int (l1 + 1)] [] (S sl p I J) else ev d 303 32 [.ref 46, .int l1] [] (S sl p I J)) := by
  refine (r_ne0 (dk D303 14 rfl) rfl).trans (ite2 ?_ ?_)
  · refine (r_inc (L' := [.ref 46, .int (l1 + 1)]) (dk D303 15 rfl) rfl rfl ci1 (Nat.le_of_ble_eq_true rfl) rfl).trans ?_
    refine (r_goto (L' := [.ref 46, .int (l1 + 1)]) (dk D303 16 rfl) rfl nd303_6 rfl).trans ?_
    exact rfl
  · exact rfl
theorem E303_32 {d sl : Nat} {p : Nat → Nat} {I : Nat → Nat → Int32} {J : Nat → Nat → Int64} (l1 : Int32)  : ev (d + 1) 303 32 [.ref 46, .int l1] [] (S sl p I J) = evK (d + 1) 303 37 [.ref 46, .int l1] [] (den d 179 [.ref 46, .int l1] (S sl p I J)) := by
  refine (r_aln (dk D303 17 rfl) rfl).trans ?_
  refine (r_iln (dk D303 18 rfl) rfl).trans ?_
  exact r_cv (dk D303 19 rfl) ow303 c12_193 mf179 (Nat.le_of_ble_eq_true rfl) rfl rfl (Nat.le_of_ble_eq_true rfl) (Nat.le_of_ble_eq_true rfl) ob_46
theorem E303_37 {d sl : Nat} {p : Nat → Nat} {I : Nat → Nat → Int32} {J : Nat → Nat → Int64} (l1 : Int32) (s0 : Int32)  : ev d 303 37 [.ref 46, .int l1] [.int s0] (S sl p I J) = some (some (.int s0), (S sl p I J)) := by
  exact r_ret (dk D303 20 rfl) rt303
set_option maxRecDepth 20000 in
theorem D304 : dOK 304 [(0, .iload 7, 2), (2, .invokestatic 124, 3), (5, .i2l, 1), (6, .lstore 9, 2), (8, .iload 7, 2), (10, .invokestatic 111, 3), (13, .i2l, 1), (14, .lstore 11, 2), (16, .aload_n 0, 1), (17, .lload 9, 2), (19, .lload 11, 2), (21, .lconst 0, 1), (22, .lload_n 1, 1), (23, .lload_n 3, 1), (24, .lload 5, 2), (26, .invokevirtual 424, 3), (29, .lload 9, 2), (31, .lload 11, 2), (33, .lconst 0, 1), (34, .lload_n 1, 1), (35, .lload_n 3, 1), (36, .lload 5, 2), (38, .invokestatic 136, 3), (41, .ldc2_w 162, 3), (44, .ldiv, 1), (45, .lstore 13, 2), (47, .iload 8, 2), (49, .invokestatic 124, 3), (52, .i2l, 1), (53, .lstore 15, 2), (55, .iload 8, 2), (57, .invokestatic 111, 3), (60, .i2l, 1), (61, .lstore 17, 2), (63, .aload_n 0, 1), (64, .lload_n 1, 1), (65, .lload 15, 2), (67, .lmul, 1), (68, .aload_n 0, 1), (69, .getfield 127, 3), (72, .i2l, 1), (73, .lload 17, 2), (75, .lmul, 1), (76, .ladd, 1), (77, .lload 9, 2), (79, .lload 13, 2), (81, .lmul, 1), (82, .ldc2_w 162, 3), (85, .ldiv, 1), (86, .ldc2_w 162, 3), (89, .lload 15, 2), (91, .lsub, 1), (92, .lmul, 1), (93, .ladd, 1), (94, .ldc2_w 162, 3), (97, .ldiv, 1), (98, .l2i, 1), (99, .putfield 127, 3), (102, .aload_n 0, 1), (103, .lload_n 3, 1), (104, .lload 15, 2), (106, .lmul, 1), (107, .aload_n 0, 1), (108, .getfield 130, 3), (111, .i2l, 1), (112, .lload 17, 2), (114, .lmul, 1), (115, .ladd, 1), (116, .lload 11, 2), (118, .lload 13, 2), (120, .lmul, 1), (121, .ldc2_w 162, 3), (124, .ldiv, 1), (125, .ldc2_w 162, 3), (128, .lload 15, 2), (130, .lsub, 1), (131, .lmul, 1), (132, .ladd, 1), (133, .ldc2_w 162, 3), (136, .ldiv, 1), (137, .l2i, 1), (138, .putfield 130, 3), (141, .aload_n 0, 1), (142, .lload 5, 2), (144, .lload 15, 2), (146, .lmul, 1), (147, .aload_n 0, 1), (148, .getfield 133, 3), (151, .i2l, 1), (152, .lload 17, 2), (154, .lmul, 1), (155, .ladd, 1), (156, .ldc2_w 162, 3), (159, .ldiv, 1), (160, .l2i, 1), (161, .putfield 133, 3), (164, .return_, 1)] = true := by decide +kernel
theorem E304_0 {d sl : Nat} {p : Nat → Nat} {I : Nat → Nat → Int32} {J : Nat → Nat → Int64} (a1 : Int64) (a2 : Int64) (a3 : Int64) (a4 : Int32) (a5 : Int32)  : den (d + 1) 304 [.ref 46, .long a1, .long a2, .long a3, .int a4, .int a5] (S sl p I J) = evK (d + 1) 304 5 [.ref 46, .long a1, .retAddr 0, .long a2, .retAddr 0, .long a3, .retAddr 0, .int a4, .int a5, .retAddr 0, .retAddr 0, .retAddr 0, .retAddr 0, .retAddr 0, .retAddr 0, .retAddr 0, .retAddr 0, .retAddr 0, .retAddr 0] [] (den d 183 [.int a4] (S sl p I J)) := by
  refine (show den (d + 1) 304 [.ref 46, .long a1, .long a2, .long a3, .int a4, .int a5] (S sl p I J) = ev (d + 1) 304 0 [.ref 46, .long a1, .retAddr 0, .long a2, .retAddr 0, .long a3, .retAddr 0, .int a4, .int a5, .retAddr 0, .retAddr 0, .retAddr 0, .retAddr 0, .retAddr 0, .retAddr 0, .retAddr 0, .retAddr 0, .retAddr 0, .retAddr 0] [] (S sl p I J) from rfl).trans ?_
  refine (r_il (dk D304 0 rfl) rfl).trans ?_
  exact r_cs (dk D304 1 rfl) ow304 pn12_124 c12_124 mf183 (Nat.le_of_ble_eq_true rfl) rfl rfl (Nat.le_of_ble_eq_true rfl) (Nat.le_of_ble_eq_true rfl)
theorem E304_5 {d sl : Nat} {p : Nat → Nat} {I : Nat → Nat → Int32} {J : Nat → Nat → Int64} (l1 : Int64) (l3 : Int64) (l5 : Int64) (l7 : Int32) (l8 : Int32) (s0 : Int32)  : ev (d + 1) 304 5 [.ref 46, .long l1, .retAddr 0, .long l3, .retAddr 0, .long l5, .retAddr 0, .int l7, .int l8, .retAddr 0, .retAddr 0, .retAddr 0, .retAddr 0, .retAddr 0, .retAddr 0, .retAddr 0, .retAddr 0, .retAddr 0, .retAddr 0] [.int s0] (S sl p I J) = evK (d + 1) 304 13 [.ref 46, .long l1, .retAddr 0, .long l3, .retAddr 0, .long l5, .retAddr 0, .int l7, .int l8, .long (Int32.toInt64 s0), .retAddr 0, .retAddr 0, .retAddr 0, .retAddr 0, .retAddr 0, .retAddr 0, .retAddr 0, .retAddr 0, .retAddr 0] [] (den d 182 [.int l7] (S sl p I J)) := by
  refine (r_i2l (dk D304 2 rfl)).trans ?_
  refine (r_ls (L' := [.ref 46, .long l1, .retAddr 0, .long l3, .retAddr 0, .long l5, .retAddr 0, .int l7, .int l8, .long (Int32.toInt64 s0), .retAddr 0, .retAddr 0, .retAddr 0, .retAddr 0, .retAddr 0, .retAddr 0, .retAddr 0, .retAddr 0, .retAddr 0]) (dk D304 3 rfl) (Nat.le_of_ble_eq_true rfl) rfl).trans ?_
  refine (r_il (dk D304 4 rfl) rfl).trans ?_
  exact r_cs (dk D304 5 rfl) ow304 pn12_111 c12_111 mf182 (Nat.le_of_ble_eq_true rfl) rfl rfl (Nat.le_of_ble_eq_true rfl) (Nat.le_of_ble_eq_true rfl)
theorem E304_13 {d sl : Nat} {p : Nat → Nat} {I : Nat → Nat → Int32} {J : Nat → Nat → Int64} (l1 : Int64) (l3 : Int64) (l5 : Int64) (l7 : Int32) (l8 : Int32) (l9 : Int64) (s0 : Int32)  : ev (d + 1) 304 13 [.ref 46, .long l1, .retAddr 0, .long l3, .retAddr 0, .long l5, .retAddr 0, .int l7, .int l8, .long l9, .retAddr 0, .retAddr 0, .retAddr 0, .retAddr 0, .retAddr 0, .retAddr 0, .retAddr 0, .retAddr 0, .retAddr 0] [.int s0] (S sl p I J) = evK (d + 1) 304 29 [.ref 46, .long l1, .retAddr 0, .long l3, .retAddr 0, .long l5, .retAddr 0, .int l7, .int l8, .long l9, .retAddr 0, .long (Int32.toInt64 s0), .retAddr 0, .retAddr 0, .retAddr 0, .retAddr 0, .retAddr 0, .retAddr 0, .retAddr 0] [] (den d 283 [.ref 46, .long l9, .long (Int32.toInt64 s0), .long 0, .long l1, .long l3, .long l5] (S sl p I J)) := by
  refine (r_i2l (dk D304 6 rfl)).trans ?_
  refine (r_ls (L' := [.ref 46, .long l1, .retAddr 0, .long l3, .retAddr 0, .long l5, .retAddr 0, .int l7, .int l8, .long l9, .retAddr 0, .long (Int32.toInt64 s0), .retAddr 0, .retAddr 0, .retAddr 0, .retAddr 0, .retAddr 0, .retAddr 0, .retAddr 0]) (dk D304 7 rfl) (Nat.le_of_ble_eq_true rfl) rfl).trans ?_
  refine (r_aln (dk D304 8 rfl) rfl).trans ?_
  refine (r_ll (dk D304 9 rfl) rfl).trans ?_
  refine (r_ll (dk D304 10 rfl) rfl).trans ?_
  refine (r_lc (dk D304 11 rfl) cl0).trans ?_
  refine (r_lln (dk D304 12 rfl) rfl).trans ?_
  refine (r_lln (dk D304 13 rfl) rfl).trans ?_
  refine (r_ll (dk D304 14 rfl) rfl).trans ?_
  exact r_cv (dk D304 15 rfl) ow304 c12_424 mf283 (Nat.le_of_ble_eq_true rfl) rfl rfl (Nat.le_of_ble_eq_true rfl) (Nat.le_of_ble_eq_true rfl) ob_46
theorem E304_29 {d sl : Nat} {p : Nat → Nat} {I : Nat → Nat → Int32} {J : Nat → Nat → Int64} (l1 : Int64) (l3 : Int64) (l5 : Int64) (l7 : Int32) (l8 : Int32) (l9 : Int64) (l11 : Int64)  : ev (d + 1) 304 29 [.ref 46, .long l1, .retAddr 0, .long l3, .retAddr 0, .long l5, .retAddr 0, .int l7, .int l8, .long l9, .retAddr 0, .long l11, .retAddr 0, .retAddr 0, .retAddr 0, .retAddr 0, .retAddr 0, .retAddr 0, .retAddr 0] [] (S sl p I J) = evK (d + 1) 304 41 [.ref 46, .long l1, .retAddr 0, .long l3, .retAddr 0, .long l5, .retAddr 0, .int l7, .int l8, .long l9, .retAddr 0, .long l11, .retAddr 0, .retAddr 0, .retAddr 0, .retAddr 0, .retAddr 0, .retAddr 0, .retAddr 0] [] (den d 188 [.long l9, .long l11, .long 0, .long l1, .long l3, .long l5] (S sl p I J)) := by
  refine (r_ll (dk D304 16 rfl) rfl).trans ?_
  refine (r_ll (dk D304 17 rfl) rfl).trans ?_
  refine (r_lc (dk D304 18 rfl) cl0).trans ?_
  refine (r_lln (dk D304 19 rfl) rfl).trans ?_
  refine (r_lln (dk D304 20 rfl) rfl).trans ?_
  refine (r_ll (dk D304 21 rfl) rfl).trans ?_
  exact r_cs (dk D304 22 rfl) ow304 pn12_136 c12_136 mf188 (Nat.le_of_ble_eq_true rfl) rfl rfl (Nat.le_of_ble_eq_true rfl) (Nat.le_of_ble_eq_true rfl)
theorem E304_41 {d sl : Nat} {p : Nat → Nat} {I : Nat → Nat → Int32} {J : Nat → Nat → Int64} (l1 : Int64) (l3 : Int64) (l5 : Int64) (l7 : Int32) (l8 : Int32) (l9 : Int64) (l11 : Int64) (s0 : Int64)  : ev (d + 1) 304 41 [.ref 46, .long l1, .retAddr 0, .long l3, .retAddr 0, .long l5, .retAddr 0, .int l7, .int l8, .long l9, .retAddr 0, .long l11, .retAddr 0, .retAddr 0, .retAddr 0, .retAddr 0, .retAddr 0, .retAddr 0, .retAddr 0] [.long s0] (S sl p I J) = evK (d + 1) 304 52 [.ref 46, .long l1, .retAddr 0, .long l3, .retAddr 0, .long l5, .retAddr 0, .int l7, .int l8, .long l9, .retAddr 0, .long l11, .retAddr 0, .long (s0 / 1000), .retAddr 0, .retAddr 0, .retAddr 0, .retAddr 0, .retAddr 0] [] (den d 183 [.int l8] (S sl p I J)) := by
  refine (r_ld2 (dk D304 23 rfl) ow304 kk12_162).trans ?_
  refine (r_ldiv (dk D304 24 rfl) (by decide)).trans ?_
  refine (r_ls (L' := [.ref 46, .long l1, .retAddr 0, .long l3, .retAddr 0, .long l5, .retAddr 0, .int l7, .int l8, .long l9, .retAddr 0, .long l11, .retAddr 0, .long (s0 / 1000), .retAddr 0, .retAddr 0, .retAddr 0, .retAddr 0, .retAddr 0]) (dk D304 25 rfl) (Nat.le_of_ble_eq_true rfl) rfl).trans ?_
  refine (r_il (dk D304 26 rfl) rfl).trans ?_
  exact r_cs (dk D304 27 rfl) ow304 pn12_124 c12_124 mf183 (Nat.le_of_ble_eq_true rfl) rfl rfl (Nat.le_of_ble_eq_true rfl) (Nat.le_of_ble_eq_true rfl)
theorem E304_52 {d sl : Nat} {p : Nat → Nat} {I : Nat → Nat → Int32} {J : Nat → Nat → Int64} (l1 : Int64) (l3 : Int64) (l5 : Int64) (l7 : Int32) (l8 : Int32) (l9 : Int64) (l11 : Int64) (l13 : Int64) (s0 : Int32)  : ev (d + 1) 304 52 [.ref 46, .long l1, .retAddr 0, .long l3, .retAddr 0, .long l5, .retAddr 0, .int l7, .int l8, .long l9, .retAddr 0, .long l11, .retAddr 0, .long l13, .retAddr 0, .retAddr 0, .retAddr 0, .retAddr 0, .retAddr 0] [.int s0] (S sl p I J) = evK (d + 1) 304 60 [.ref 46, .long l1, .retAddr 0, .long l3, .retAddr 0, .long l5, .retAddr 0, .int l7, .int l8, .long l9, .retAddr 0, .long l11, .retAddr 0, .long l13, .retAddr 0, .long (Int32.toInt64 s0), .retAddr 0, .retAddr 0, .retAddr 0] [] (den d 182 [.int l8] (S sl p I J)) := by
  refine (r_i2l (dk D304 28 rfl)).trans ?_
  refine (r_ls (L' := [.ref 46, .long l1, .retAddr 0, .long l3, .retAddr 0, .long l5, .retAddr 0, .int l7, .int l8, .long l9, .retAddr 0, .long l11, .retAddr 0, .long l13, .retAddr 0, .long (Int32.toInt64 s0), .retAddr 0, .retAddr 0, .retAddr 0]) (dk D304 29 rfl) (Nat.le_of_ble_eq_true rfl) rfl).trans ?_
  refine (r_il (dk D304 30 rfl) rfl).trans ?_
  exact r_cs (dk D304 31 rfl) ow304 pn12_111 c12_111 mf182 (Nat.le_of_ble_eq_true rfl) rfl rfl (Nat.le_of_ble_eq_true rfl) (Nat.le_of_ble_eq_true rfl)
theorem E304_60 {d sl : Nat} {p : Nat → Nat} {I : Nat → Nat → Int32} {J : Nat → Nat → Int64} (l1 : Int64) (l3 : Int64) (l5 : Int64) (l7 : Int32) (l8 : Int32) (l9 : Int64) (l11 : Int64) (l13 : Int64) (l15 : Int64) (s0 : Int32)  : ev d 304 60 [.ref 46, .long l1, .retAddr 0, .long l3, .retAddr 0, .long l5, .retAddr 0, .int l7, .int l8, .long l9, .retAddr 0, .long l11, .retAddr 0, .long l13, .retAddr 0, .long l15, .retAddr 0, .retAddr 0, .retAddr 0] [.int s0] (S sl p I J) = some (none, (S sl p (up2 (up2 (up2 I 46 23 (Int64.toInt32 ((((l1 * l15) + ((Int32.toInt64 (I 46 23)) * (Int32.toInt64 s0))) + (((l9 * l13) / 1000) * (1000 - l15))) / 1000))) 46 24 (Int64.toInt32 ((((l3 * l15) + ((Int32.toInt64 ((up2 I 46 23 (Int64.toInt32 ((((l1 * l15) + ((Int32.toInt64 (I 46 23)) * (Int32.toInt64 s0))) + (((l9 * l13) / 1000) * (1000 - l15))) / 1000))) 46 24)) * (Int32.toInt64 s0))) + (((l11 * l13) / 1000) * (1000 - l15))) / 1000))) 46 25 (Int64.toInt32 (((l5 * l15) + ((Int32.toInt64 ((up2 (up2 I 46 23 (Int64.toInt32 ((((l1 * l15) + ((Int32.toInt64 (I 46 23)) * (Int32.toInt64 s0))) + (((l9 * l13) / 1000) * (1000 - l15))) / 1000))) 46 24 (Int64.toInt32 ((((l3 * l15) + ((Int32.toInt64 ((up2 I 46 23 (Int64.toInt32 ((((l1 * l15) + ((Int32.toInt64 (I 46 23)) * (Int32.toInt64 s0))) + (((l9 * l13) / 1000) * (1000 - l15))) / 1000))) 46 24)) * (Int32.toInt64 s0))) + (((l11 * l13) / 1000) * (1000 - l15))) / 1000))) 46 25)) * (Int32.toInt64 s0))) / 1000))) J)) := by
  refine (r_i2l (dk D304 32 rfl)).trans ?_
  refine (r_ls (L' := [.ref 46, .long l1, .retAddr 0, .long l3, .retAddr 0, .long l5, .retAddr 0, .int l7, .int l8, .long l9, .retAddr 0, .long l11, .retAddr 0, .long l13, .retAddr 0, .long l15, .retAddr 0, .long (Int32.toInt64 s0), .retAddr 0]) (dk D304 33 rfl) (Nat.le_of_ble_eq_true rfl) rfl).trans ?_
  refine (r_aln (dk D304 34 rfl) rfl).trans ?_
  refine (r_lln (dk D304 35 rfl) rfl).trans ?_
  refine (r_ll (dk D304 36 rfl) rfl).trans ?_
  refine (r_lmul (dk D304 37 rfl)).trans ?_
  refine (r_aln (dk D304 38 rfl) rfl).trans ?_
  refine (r_getI (dk D304 39 rfl) ow304 q12_127 ob_46).trans ?_
  refine (r_i2l (dk D304 40 rfl)).trans ?_
  refine (r_ll (dk D304 41 rfl) rfl).trans ?_
  refine (r_lmul (dk D304 42 rfl)).trans ?_
  refine (r_ladd (dk D304 43 rfl)).trans ?_
  refine (r_ll (dk D304 44 rfl) rfl).trans ?_
  refine (r_ll (dk D304 45 rfl) rfl).trans ?_
  refine (r_lmul (dk D304 46 rfl)).trans ?_
  refine (r_ld2 (dk D304 47 rfl) ow304 kk12_162).trans ?_
  refine (r_ldiv (dk D304 48 rfl) (by decide)).trans ?_
  refine (r_ld2 (dk D304 49 rfl) ow304 kk12_162).trans ?_
  refine (r_ll (dk D304 50 rfl) rfl).trans ?_
  refine (r_lsub (dk D304 51 rfl)).trans ?_
  refine (r_lmul (dk D304 52 rfl)).trans ?_
  refine (r_ladd (dk D304 53 rfl)).trans ?_
  refine (r_ld2 (dk D304 54 rfl) ow304 kk12_162).trans ?_
  refine (r_ldiv (dk D304 55 rfl) (by decide)).trans ?_
  refine (r_l2i (dk D304 56 rfl)).trans ?_
  refine (r_putI (dk D304 57 rfl) ow304 w12_127 ob_46).trans ?_
  refine (r_aln (dk D304 58 rfl) rfl).trans ?_
  refine (r_lln (dk D304 59 rfl) rfl).trans ?_
  refine (r_ll (dk D304 60 rfl) rfl).trans ?_
  refine (r_lmul (dk D304 61 rfl)).trans ?_
  refine (r_aln (dk D304 62 rfl) rfl).trans ?_
  refine (r_getI (dk D304 63 rfl) ow304 q12_130 ob_46).trans ?_
  refine (r_i2l (dk D304 64 rfl)).trans ?_
  refine (r_ll (dk D304 65 rfl) rfl).trans ?_
  refine (r_lmul (dk D304 66 rfl)).trans ?_
  refine (r_ladd (dk D304 67 rfl)).trans ?_
  refine (r_ll (dk D304 68 rfl) rfl).trans ?_
  refine (r_ll (dk D304 69 rfl) rfl).trans ?_
  refine (r_lmul (dk D304 70 rfl)).trans ?_
  refine (r_ld2 (dk D304 71 rfl) ow304 kk12_162).trans ?_
  refine (r_ldiv (dk D304 72 rfl) (by decide)).trans ?_
  refine (r_ld2 (dk D304 73 rfl) ow304 kk12_162).trans ?_
  refine (r_ll (dk D304 74 rfl) rfl).trans ?_
  refine (r_lsub (dk D304 75 rfl)).trans ?_
  refine (r_lmul (dk D304 76 rfl)).trans ?_
  refine (r_ladd (dk D304 77 rfl)).trans ?_
  refine (r_ld2 (dk D304 78 rfl) ow304 kk12_162).trans ?_
  refine (r_ldiv (dk D304 79 rfl) (by decide)).trans ?_
  refine (r_l2i (dk D304 80 rfl)).trans ?_
  refine (r_putI (dk D304 81 rfl) ow304 w12_130 ob_46).trans ?_
  refine (r_aln (dk D304 82 rfl) rfl).trans ?_
  refine (r_ll (dk D304 83 rfl) rfl).trans ?_
  refine (r_ll (dk D304 84 rfl) rfl).trans ?_
  refine (r_lmul (dk D304 85 rfl)).trans ?_
  refine (r_aln (dk D304 86 rfl) rfl).trans ?_
  refine (r_getI (dk D304 87 rfl) ow304 q12_133 ob_46).trans ?_
  refine (r_i2l (dk D304 88 rfl)).trans ?_
  refine (r_ll (dk D304 89 rfl) rfl).trans ?_
  refine (r_lmul (dk D304 90 rfl)).trans ?_
  refine (r_ladd (dk D304 91 rfl)).trans ?_
  refine (r_ld2 (dk D304 92 rfl) ow304 kk12_162).trans ?_
  refine (r_ldiv (dk D304 93 rfl) (by decide)).trans ?_
  refine (r_l2i (dk D304 94 rfl)).trans ?_
  refine (r_putI (dk D304 95 rfl) ow304 w12_133 ob_46).trans ?_
  exact r_rev (dk D304 96 rfl) rt304
set_option maxRecDepth 20000 in
theorem D305 : dOK 305 [(0, .aload_n 0, 1), (1, .aload_n 0, 1), (2, .getfield 80, 3), (5, .iload_n 1, 1), (6, .iaload, 1), (7, .i2l, 1), (8, .aload_n 0, 1), (9, .getfield 83, 3), (12, .iload_n 1, 1), (13, .iaload, 1), (14, .i2l, 1), (15, .aload_n 0, 1), (16, .getfield 86, 3), (19, .iload_n 1, 1), (20, .iaload, 1), (21, .i2l, 1), (22, .iload_n 3, 1), (23, .iload 4, 2), (25, .invokevirtual 470, 3), (28, .aload_n 0, 1), (29, .getfield 127, 3), (32, .i2l, 1), (33, .lstore 5, 2), (35, .aload_n 0, 1), (36, .getfield 130, 3), (39, .i2l, 1), (40, .lstore 7, 2), (42, .aload_n 0, 1), (43, .getfield 133, 3), (46, .i2l, 1), (47, .lstore 9, 2), (49, .aload_n 0, 1), (50, .invokevirtual 263, 3), (53, .iconst 0, 1), (54, .istore 11, 2), (56, .iload 11, 2), (58, .aload_n 0, 1), (59, .getfield 196, 3), (62, .if_icmp .ge 141, 3), (65, .aload_n 0, 1), (66, .getfield 71, 3), (69, .iload 11, 2), (71, .iaload, 1), (72, .iload_n 1, 1), (73, .if_icmp .eq 17, 3), (76, .aload_n 0, 1), (77, .getfield 71, 3), (80, .iload 11, 2), (82, .iaload, 1), (83, .iload_n 2, 1), (84, .if_icmp .eq 6, 3), (87, .goto 110, 3), (90, .aload_n 0, 1), (91, .aload_n 0, 1), (92, .getfield 50, 3), (95, .iload 11, 2), (97, .iaload, 1), (98, .i2l, 1), (99, .aload_n 0, 1), (100, .getfield 53, 3), (103, .iload 11, 2), (105, .iaload, 1), (106, .i2l, 1), (107, .aload_n 0, 1), (108, .getfield 56, 3), (111, .iload 11, 2), (113, .iaload, 1), (114, .i2l, 1), (115, .iload_n 3, 1), (116, .aload_n 0, 1), (117, .getfield 71, 3), (120, .iload 11, 2), (122, .iaload, 1), (123, .iload_n 1, 1), (124, .if_icmp .ne 8, 3), (127, .iload 4, 2), (129, .goto 6, 3), (132, .iload 4, 2), (134, .ineg, 1), (135, .invokevirtual 470, 3), (138, .aload_n 0, 1), (139, .aload_n 0, 1), (140, .getfield 127, 3), (143, .i2l, 1), (144, .aload_n 0, 1), (145, .getfield 130, 3), (148, .i2l, 1), (149, .aload_n 0, 1), (150, .getfield 133, 3), (153, .i2l, 1), (154, .aload_n 0, 1), (155, .iload 11, 2), (157, .invokevirtual 266, 3), (160, .aload_n 0, 1), (161, .getfield 127, 3), (164, .i2l, 1), (165, .aload_n 0, 1), (166, .getfield 130, 3), (169, .i2l, 1), (170, .aload_n 0, 1), (171, .getfield 133, 3), (174, .i2l, 1), (175, .lload 5, 2), (177, .lload 7, 2), (179, .lload 9, 2), (181, .invokestatic 136, 3), (184, .lconst 0, 1), (185, .lcmp, 1), (186, .ifCond .ge 7, 3), (189, .iconst 1, 1), (190, .goto 4, 3), (193, .iconst 0, 1), (194, .invokevirtual 269, 3), (197, .iinc 11 1, 3), (200, .goto (-144), 3), (203, .aload_n 0, 1), (204, .invokevirtual 351, 3), (207, .ireturn, 1)] = true := by decide +kernel
theorem E305_0 {d sl : Nat} {p : Nat → Nat} {I : Nat → Nat → Int32} {J : Nat → Nat → Int64} (a1 : Int32) (a2 : Int32) (a3 : Int32) (a4 : Int32)  : den (d + 1) 305 [.ref 46, .int a1, .int a2, .int a3, .int a4] (S sl p I J) = ck (ixb 30 a1) (ck (ixb 30 a1) (ck (ixb 30 a1) (evK (d + 1) 305 28 [.ref 46, .int a1, .int a2, .int a3, .int a4, .retAddr 0, .retAddr 0, .retAddr 0, .retAddr 0, .retAddr 0, .retAddr 0, .retAddr 0] [] (den d 304 [.ref 46, .long (Int32.toInt64 (I 64 (Int32.toNatClampNeg a1))), .long (Int32.toInt64 (I 65 (Int32.toNatClampNeg a1))), .long (Int32.toInt64 (I 66 (Int32.toNatClampNeg a1))), .int a3, .int a4] (S sl p I J))))) := by
  refine (show den (d + 1) 305 [.ref 46, .int a1, .int a2, .int a3, .int a4] (S sl p I J) = ev (d + 1) 305 0 [.ref 46, .int a1, .int a2, .int a3, .int a4, .retAddr 0, .retAddr 0, .retAddr 0, .retAddr 0, .retAddr 0, .retAddr 0, .retAddr 0] [] (S sl p I J) from rfl).trans ?_
  refine (r_aln (dk D305 0 rfl) rfl).trans ?_
  refine (r_aln (dk D305 1 rfl) rfl).trans ?_
  refine (r_getR (dk D305 2 rfl) ow305 q12_80 ob_46 rfl).trans ?_
  refine (r_iln (dk D305 3 rfl) rfl).trans ?_
  refine (r_ild (dk D305 4 rfl) ar_64).trans (ck3 fun g1 => ?_)
  refine (r_i2l (dk D305 5 rfl)).trans ?_
  refine (r_aln (dk D305 6 rfl) rfl).trans ?_
  refine (r_getR (dk D305 7 rfl) ow305 q12_83 ob_46 rfl).trans ?_
  refine (r_iln (dk D305 8 rfl) rfl).trans ?_
  refine (r_ild (dk D305 9 rfl) ar_65).trans (ck3 fun g2 => ?_)
  refine (r_i2l (dk D305 10 rfl)).trans ?_
  refine (r_aln (dk D305 11 rfl) rfl).trans ?_
  refine (r_getR (dk D305 12 rfl) ow305 q12_86 ob_46 rfl).trans ?_
  refine (r_iln (dk D305 13 rfl) rfl).trans ?_
  refine (r_ild (dk D305 14 rfl) ar_66).trans (ck3 fun g3 => ?_)
  refine (r_i2l (dk D305 15 rfl)).trans ?_
  refine (r_iln (dk D305 16 rfl) rfl).trans ?_
  refine (r_il (dk D305 17 rfl) rfl).trans ?_
  exact r_cv (dk D305 18 rfl) ow305 c12_470 mf304 (Nat.le_of_ble_eq_true rfl) rfl rfl (Nat.le_of_ble_eq_true rfl) (Nat.le_of_ble_eq_true rfl) ob_46
theorem E305_28 {d sl : Nat} {p : Nat → Nat} {I : Nat → Nat → Int32} {J : Nat → Nat → Int64} (l1 : Int32) (l2 : Int32) (l3 : Int32) (l4 : Int32)  : ev (d + 1) 305 28 [.ref 46, .int l1, .int l2, .int l3, .int l4, .retAddr 0, .retAddr 0, .retAddr 0, .retAddr 0, .retAddr 0, .retAddr 0, .retAddr 0] [] (S sl p I J) = evK (d + 1) 305 53 [.ref 46, .int l1, .int l2, .int l3, .int l4, .long (Int32.toInt64 (I 46 23)), .retAddr 0, .long (Int32.toInt64 (I 46 24)), .retAddr 0, .long (Int32.toInt64 (I 46 25)), .retAddr 0, .retAddr 0] [] (den d 214 [.ref 46] (S sl p I J)) := by
  refine (r_aln (dk D305 19 rfl) rfl).trans ?_
  refine (r_getI (dk D305 20 rfl) ow305 q12_127 ob_46).trans ?_
  refine (r_i2l (dk D305 21 rfl)).trans ?_
  refine (r_ls (L' := [.ref 46, .int l1, .int l2, .int l3, .int l4, .long (Int32.toInt64 (I 46 23)), .retAddr 0, .retAddr 0, .retAddr 0, .retAddr 0, .retAddr 0, .retAddr 0]) (dk D305 22 rfl) (Nat.le_of_ble_eq_true rfl) rfl).trans ?_
  refine (r_aln (dk D305 23 rfl) rfl).trans ?_
  refine (r_getI (dk D305 24 rfl) ow305 q12_130 ob_46).trans ?_
  refine (r_i2l (dk D305 25 rfl)).trans ?_
  refine (r_ls (L' := [.ref 46, .int l1, .int l2, .int l3, .int l4, .long (Int32.toInt64 (I 46 23)), .retAddr 0, .long (Int32.toInt64 (I 46 24)), .retAddr 0, .retAddr 0, .retAddr 0, .retAddr 0]) (dk D305 26 rfl) (Nat.le_of_ble_eq_true rfl) rfl).trans ?_
  refine (r_aln (dk D305 27 rfl) rfl).trans ?_
  refine (r_getI (dk D305 28 rfl) ow305 q12_133 ob_46).trans ?_
  refine (r_i2l (dk D305 29 rfl)).trans ?_
  refine (r_ls (L' := [.ref 46, .int l1, .int l2, .int l3, .int l4, .long (Int32.toInt64 (I 46 23)), .retAddr 0, .long (Int32.toInt64 (I 46 24)), .retAddr 0, .long (Int32.toInt64 (I 46 25)), .retAddr 0, .retAddr 0]) (dk D305 30 rfl) (Nat.le_of_ble_eq_true rfl) rfl).trans ?_
  refine (r_aln (dk D305 31 rfl) rfl).trans ?_
  exact r_cv (dk D305 32 rfl) ow305 c12_263 mf214 (Nat.le_of_ble_eq_true rfl) rfl rfl (Nat.le_of_ble_eq_true rfl) (Nat.le_of_ble_eq_true rfl) ob_46
theorem E305_53 {d sl : Nat} {p : Nat → Nat} {I : Nat → Nat → Int32} {J : Nat → Nat → Int64} (l1 : Int32) (l2 : Int32) (l3 : Int32) (l4 : Int32) (l5 : Int64) (l7 : Int64) (l9 : Int64)  : ev d 305 53 [.ref 46, .int l1, .int l2, .int l3, .int l4, .long l5, .retAddr 0, .long l7, .retAddr 0, .long l9, .retAddr 0, .retAddr 0] [] (S sl p I J) = ev d 305 56 [.ref 46, .int l1, .int l2, .int l3, .int l4, .long l5, .retAddr 0, .long l7, .retAddr 0, .long l9, .retAddr 0, .int 0] [] (S sl p I J) := by
  refine (r_ic (dk D305 33 rfl) ci0).trans ?_
  refine (r_is (L' := [.ref 46, .int l1, .int l2, .int l3, .int l4, .long l5, .retAddr 0, .long l7, .retAddr 0, .long l9, .retAddr 0, .int 0]) (dk D305 34 rfl) (Nat.le_of_ble_eq_true rfl) rfl).trans ?_
  exact rfl
theorem E305_56 {d sl : Nat} {p : Nat → Nat} {I : Nat → Nat → Int32} {J : Nat → Nat → Int64} (l1 : Int32) (l2 : Int32) (l3 : Int32) (l4 : Int32) (l5 : Int64) (l7 : Int64) (l9 : Int64) (l11 : Int32)  : ev (d + 1) 305 56 [.ref 46, .int l1, .int l2, .int l3, .int l4, .long l5, .retAddr 0, .long l7, .retAddr 0, .long l9, .retAddr 0, .int l11] [] (S sl p I J) = (if l11 < (I 46 2) then ck (ixb 60 l11) ((if (I 61 (Int32.toNatClampNeg l11)) = l1 then ev (d + 1) 305 90 [.ref 46, .int l1, .int l2, .int l3, .int l4, .long l5, .retAddr 0, .long l7, .retAddr 0, .long l9, .retAddr 0, .int l11] [] (S sl p I J) else ck (ixb 60 l11) ((if (I 61 (Int32.toNatClampNeg l11)) = l2 then ev (d + 1) 305 90 [.ref 46, .int l1, .int l2, .int l3, .int l4, .long l5, .retAddr 0, .long l7, .retAddr 0, .long l9, .retAddr 0, .int l11] [] (S sl p I J) else ev (d + 1) 305 56 [.ref 46, .int l1, .int l2, .int l3, .int l4, .long l5, .retAddr 0, .long l7, .retAddr 0, .long l9, .retAddr 0, .int (l11 + 1)] [] (S sl p I J))))) else evK (d + 1) 305 207 [.ref 46, .int l1, .int l2, .int l3, .int l4, .long l5, .retAddr 0, .long l7, .retAddr 0, .long l9, .retAddr 0, .int l11] [] (den d 228 [.ref 46] (S sl p I J))) := by
  refine (r_il (dk D305 35 rfl) rfl).trans ?_
  refine (r_aln (dk D305 36 rfl) rfl).trans ?_
  refine (r_getI (dk D305 37 rfl) ow305 q12_196 ob_46).trans ?_
  refine (r_ge (dk D305 38 rfl) rfl).trans (ite2 ?_ ?_)
  · refine (r_aln (dk D305 39 rfl) rfl).trans ?_
    refine (r_getR (dk D305 40 rfl) ow305 q12_71 ob_46 rfl).trans ?_
    refine (r_il (dk D305 41 rfl) rfl).trans ?_
    refine (r_ild (dk D305 42 rfl) ar_61).trans (ck3 fun g1 => ?_)
    refine (r_iln (dk D305 43 rfl) rfl).trans ?_
    refine (r_eq (dk D305 44 rfl) rfl).trans (ite2 ?_ ?_)
    · exact rfl
    · refine (r_aln (dk D305 45 rfl) rfl).trans ?_
      refine (r_getR (dk D305 46 rfl) ow305 q12_71 ob_46 rfl).trans ?_
      refine (r_il (dk D305 47 rfl) rfl).trans ?_
      refine (r_ild (dk D305 48 rfl) ar_61).trans (ck3 fun g2 => ?_)
      refine (r_iln (dk D305 49 rfl) rfl).trans ?_
      refine (r_eq (dk D305 50 rfl) rfl).trans (ite2 ?_ ?_)
      · exact rfl
      · refine (r_goto (L' := [.ref 46, .int l1, .int l2, .int l3, .int l4, .long l5, .retAddr 0, .long l7, .retAddr 0, .long l9, .retAddr 0, .int l11]) (dk D305 51 rfl) rfl nd305_197 rfl).trans ?_
        refine (r_inc (L' := [.ref 46, .int l1, .int l2, .int l3, .int l4, .long l5, .retAddr 0, .long l7, .retAddr 0, .long l9, .retAddr 0, .int (l11 + 1)]) (dk D305 113 rfl) rfl rfl ci1 (Nat.le_of_ble_eq_true rfl) rfl).trans ?_
        refine (r_goto (L' := [.ref 46, .int l1, .int l2, .int l3, .int l4, .long l5, .retAddr 0, .long l7, .retAddr 0, .long l9, .retAddr 0, .int (l11 + 1)]) (dk D305 114 rfl) rfl nd305_56 rfl).trans ?_
        exact rfl
  · refine (r_aln (dk D305 115 rfl) rfl).trans ?_
    exact r_cv (dk D305 116 rfl) ow305 c12_351 mf228 (Nat.le_of_ble_eq_true rfl) rfl rfl (Nat.le_of_ble_eq_true rfl) (Nat.le_of_ble_eq_true rfl) ob_46
theorem E305_90 {d sl : Nat} {p : Nat → Nat} {I : Nat → Nat → Int32} {J : Nat → Nat → Int64} (l1 : Int32) (l2 : Int32) (l3 : Int32) (l4 : Int32) (l5 : Int64) (l7 : Int64) (l9 : Int64) (l11 : Int32)  : ev d 305 90 [.ref 46, .int l1, .int l2, .int l3, .int l4, .long l5, .retAddr 0, .long l7, .retAddr 0, .long l9, .retAddr 0, .int l11] [] (S sl p I J) = ck (ixb 60 l11) (ck (ixb 60 l11) (ck (ixb 60 l11) (ck (ixb 60 l11) ((if (I 61 (Int32.toNatClampNeg l11)) = l1 then ev d 305 135 [.ref 46, .int l1, .int l2, .int l3, .int l4, .long l5, .retAddr 0, .long l7, .retAddr 0, .long l9, .retAddr 0, .int l11] [.int l4, .int l3, .long (Int32.toInt64 (I 56 (Int32.toNatClampNeg l11))), .long (Int32.toInt64 (I 55 (Int32.toNatClampNeg l11))), .long (Int32.toInt64 (I 54 (Int32.toNatClampNeg l11))), .ref 46] (S sl p I J) else ev d 305 135 [.ref 46, .int l1, .int l2, .int l3, .int l4, .long l5, .retAddr 0, .long l7, .retAddr 0, .long l9, .retAddr 0, .int l11] [.int (-l4), .int l3, .long (Int32.toInt64 (I 56 (Int32.toNatClampNeg l11))), .long (Int32.toInt64 (I 55 (Int32.toNatClampNeg l11))), .long (Int32.toInt64 (I 54 (Int32.toNatClampNeg l11))), .ref 46] (S sl p I J)))))) := by
  refine (r_aln (dk D305 52 rfl) rfl).trans ?_
  refine (r_aln (dk D305 53 rfl) rfl).trans ?_
  refine (r_getR (dk D305 54 rfl) ow305 q12_50 ob_46 rfl).trans ?_
  refine (r_il (dk D305 55 rfl) rfl).trans ?_
  refine (r_ild (dk D305 56 rfl) ar_54).trans (ck3 fun g1 => ?_)
  refine (r_i2l (dk D305 57 rfl)).trans ?_
  refine (r_aln (dk D305 58 rfl) rfl).trans ?_
  refine (r_getR (dk D305 59 rfl) ow305 q12_53 ob_46 rfl).trans ?_
  refine (r_il (dk D305 60 rfl) rfl).trans ?_
  refine (r_ild (dk D305 61 rfl) ar_55).trans (ck3 fun g2 => ?_)
  refine (r_i2l (dk D305 62 rfl)).trans ?_
  refine (r_aln (dk D305 63 rfl) rfl).trans ?_
  refine (r_getR (dk D305 64 rfl) ow305 q12_56 ob_46 rfl).trans ?_
  refine (r_il (dk D305 65 rfl) rfl).trans ?_
  refine (r_ild (dk D305 66 rfl) ar_56).trans (ck3 fun g3 => ?_)
  refine (r_i2l (dk D305 67 rfl)).trans ?_
  refine (r_iln (dk D305 68 rfl) rfl).trans ?_
  refine (r_aln (dk D305 69 rfl) rfl).trans ?_
  refine (r_getR (dk D305 70 rfl) ow305 q12_71 ob_46 rfl).trans ?_
  refine (r_il (dk D305 71 rfl) rfl).trans ?_
  refine (r_ild (dk D305 72 rfl) ar_61).trans (ck3 fun g4 => ?_)
  refine (r_iln (dk D305 73 rfl) rfl).trans ?_
  refine (r_ne (dk D305 74 rfl) rfl).trans (ite2 ?_ ?_)
  · refine (r_il (dk D305 75 rfl) rfl).trans ?_
    refine (r_goto (L' := [.ref 46, .int l1, .int l2, .int l3, .int l4, .long l5, .retAddr 0, .long l7, .retAddr 0, .long l9, .retAddr 0, .int l11]) (dk D305 76 rfl) rfl nd305_135 rfl).trans ?_
    exact rfl
  · refine (r_il (dk D305 77 rfl) rfl).trans ?_
    refine (r_ineg (dk D305 78 rfl)).trans ?_
    exact rfl
theorem E305_135 {d sl : Nat} {p : Nat → Nat} {I : Nat → Nat → Int32} {J : Nat → Nat → Int64} (l1 : Int32) (l2 : Int32) (l3 : Int32) (l4 : Int32) (l5 : Int64) (l7 : Int64) (l9 : Int64) (l11 : Int32) (s0 : Int32) (s1 : Int32) (s2 : Int64) (s3 : Int64) (s4 : Int64)  : ev (d + 1) 305 135 [.ref 46, .int l1, .int l2, .int l3, .int l4, .long l5, .retAddr 0, .long l7, .retAddr 0, .long l9, .retAddr 0, .int l11] [.int s0, .int s1, .long s2, .long s3, .long s4, .ref 46] (S sl p I J) = evK (d + 1) 305 138 [.ref 46, .int l1, .int l2, .int l3, .int l4, .long l5, .retAddr 0, .long l7, .retAddr 0, .long l9, .retAddr 0, .int l11] [] (den d 304 [.ref 46, .long s4, .long s3, .long s2, .int s1, .int s0] (S sl p I J)) := by
  exact r_cv (dk D305 79 rfl) ow305 c12_470 mf304 (Nat.le_of_ble_eq_true rfl) rfl rfl (Nat.le_of_ble_eq_true rfl) (Nat.le_of_ble_eq_true rfl) ob_46
theorem E305_138 {d sl : Nat} {p : Nat → Nat} {I : Nat → Nat → Int32} {J : Nat → Nat → Int64} (l1 : Int32) (l2 : Int32) (l3 : Int32) (l4 : Int32) (l5 : Int64) (l7 : Int64) (l9 : Int64) (l11 : Int32)  : ev (d + 1) 305 138 [.ref 46, .int l1, .int l2, .int l3, .int l4, .long l5, .retAddr 0, .long l7, .retAddr 0, .long l9, .retAddr 0, .int l11] [] (S sl p I J) = evK (d + 1) 305 160 [.ref 46, .int l1, .int l2, .int l3, .int l4, .long l5, .retAddr 0, .long l7, .retAddr 0, .long l9, .retAddr 0, .int l11] [.long (Int32.toInt64 (I 46 25)), .long (Int32.toInt64 (I 46 24)), .long (Int32.toInt64 (I 46 23)), .ref 46] (den d 197 [.ref 46, .int l11] (S sl p I J)) := by
  refine (r_aln (dk D305 80 rfl) rfl).trans ?_
  refine (r_aln (dk D305 81 rfl) rfl).trans ?_
  refine (r_getI (dk D305 82 rfl) ow305 q12_127 ob_46).trans ?_
  refine (r_i2l (dk D305 83 rfl)).trans ?_
  refine (r_aln (dk D305 84 rfl) rfl).trans ?_
  refine (r_getI (dk D305 85 rfl) ow305 q12_130 ob_46).trans ?_
  refine (r_i2l (dk D305 86 rfl)).trans ?_
  refine (r_aln (dk D305 87 rfl) rfl).trans ?_
  refine (r_getI (dk D305 88 rfl) ow305 q12_133 ob_46).trans ?_
  refine (r_i2l (dk D305 89 rfl)).trans ?_
  refine (r_aln (dk D305 90 rfl) rfl).trans ?_
  refine (r_il (dk D305 91 rfl) rfl).trans ?_
  exact r_cv (dk D305 92 rfl) ow305 c12_266 mf197 (Nat.le_of_ble_eq_true rfl) rfl rfl (Nat.le_of_ble_eq_true rfl) (Nat.le_of_ble_eq_true rfl) ob_46
theorem E305_160 {d sl : Nat} {p : Nat → Nat} {I : Nat → Nat → Int32} {J : Nat → Nat → Int64} (l1 : Int32) (l2 : Int32) (l3 : Int32) (l4 : Int32) (l5 : Int64) (l7 : Int64) (l9 : Int64) (l11 : Int32) (s0 : Int32) (s1 : Int64) (s2 : Int64) (s3 : Int64)  : ev (d + 1) 305 160 [.ref 46, .int l1, .int l2, .int l3, .int l4, .long l5, .retAddr 0, .long l7, .retAddr 0, .long l9, .retAddr 0, .int l11] [.int s0, .long s1, .long s2, .long s3, .ref 46] (S sl p I J) = evK (d + 1) 305 184 [.ref 46, .int l1, .int l2, .int l3, .int l4, .long l5, .retAddr 0, .long l7, .retAddr 0, .long l9, .retAddr 0, .int l11] [.int s0, .long s1, .long s2, .long s3, .ref 46] (den d 188 [.long (Int32.toInt64 (I 46 23)), .long (Int32.toInt64 (I 46 24)), .long (Int32.toInt64 (I 46 25)), .long l5, .long l7, .long l9] (S sl p I J)) := by
  refine (r_aln (dk D305 93 rfl) rfl).trans ?_
  refine (r_getI (dk D305 94 rfl) ow305 q12_127 ob_46).trans ?_
  refine (r_i2l (dk D305 95 rfl)).trans ?_
  refine (r_aln (dk D305 96 rfl) rfl).trans ?_
  refine (r_getI (dk D305 97 rfl) ow305 q12_130 ob_46).trans ?_
  refine (r_i2l (dk D305 98 rfl)).trans ?_
  refine (r_aln (dk D305 99 rfl) rfl).trans ?_
  refine (r_getI (dk D305 100 rfl) ow305 q12_133 ob_46).trans ?_
  refine (r_i2l (dk D305 101 rfl)).trans ?_
  refine (r_ll (dk D305 102 rfl) rfl).trans ?_
  refine (r_ll (dk D305 103 rfl) rfl).trans ?_
  refine (r_ll (dk D305 104 rfl) rfl).trans ?_
  exact r_cs (dk D305 105 rfl) ow305 pn12_136 c12_136 mf188 (Nat.le_of_ble_eq_true rfl) rfl rfl (Nat.le_of_ble_eq_true rfl) (Nat.le_of_ble_eq_true rfl)
theorem E305_184 {d sl : Nat} {p : Nat → Nat} {I : Nat → Nat → Int32} {J : Nat → Nat → Int64} (l1 : Int32) (l2 : Int32) (l3 : Int32) (l4 : Int32) (l5 : Int64) (l7 : Int64) (l9 : Int64) (l11 : Int32) (s0 : Int64) (s1 : Int32) (s2 : Int64) (s3 : Int64) (s4 : Int64)  : ev d 305 184 [.ref 46, .int l1, .int l2, .int l3, .int l4, .long l5, .retAddr 0, .long l7, .retAddr 0, .long l9, .retAddr 0, .int l11] [.long s0, .int s1, .long s2, .long s3, .long s4, .ref 46] (S sl p I J) = (if s0 < 0 then ev d 305 194 [.ref 46, .int l1, .int l2, .int l3, .int l4, .long l5, .retAddr 0, .long l7, .retAddr 0, .long l9, .retAddr 0, .int l11] [.int 1, .int s1, .long s2, .long s3, .long s4, .ref 46] (S sl p I J) else ev d 305 194 [.ref 46, .int l1, .int l2, .int l3, .int l4, .long l5, .retAddr 0, .long l7, .retAddr 0, .long l9, .retAddr 0, .int l11] [.int 0, .int s1, .long s2, .long s3, .long s4, .ref 46] (S sl p I J)) := by
  refine (r_lc (dk D305 106 rfl) cl0).trans ?_
  refine (r_jge (dk D305 107 rfl) (dk D305 108 rfl) rfl).trans (ite2 ?_ ?_)
  · refine (r_ic (dk D305 109 rfl) ci1).trans ?_
    refine (r_goto (L' := [.ref 46, .int l1, .int l2, .int l3, .int l4, .long l5, .retAddr 0, .long l7, .retAddr 0, .long l9, .retAddr 0, .int l11]) (dk D305 110 rfl) rfl nd305_194 rfl).trans ?_
    exact rfl
  · refine (r_ic (dk D305 111 rfl) ci0).trans ?_
    exact rfl
theorem E305_194 {d sl : Nat} {p : Nat → Nat} {I : Nat → Nat → Int32} {J : Nat → Nat → Int64} (l1 : Int32) (l2 : Int32) (l3 : Int32) (l4 : Int32) (l5 : Int64) (l7 : Int64) (l9 : Int64) (l11 : Int32) (s0 : Int32) (s1 : Int32) (s2 : Int64) (s3 : Int64) (s4 : Int64)  : ev (d + 1) 305 194 [.ref 46, .int l1, .int l2, .int l3, .int l4, .long l5, .retAddr 0, .long l7, .retAddr 0, .long l9, .retAddr 0, .int l11] [.int s0, .int s1, .long s2, .long s3, .long s4, .ref 46] (S sl p I J) = evK (d + 1) 305 197 [.ref 46, .int l1, .int l2, .int l3, .int l4, .long l5, .retAddr 0, .long l7, .retAddr 0, .long l9, .retAddr 0, .int l11] [] (den d 215 [.ref 46, .long s4, .long s3, .long s2, .int s1, .int s0] (S sl p I J)) := by
  exact r_cv (dk D305 112 rfl) ow305 c12_269 mf215 (Nat.le_of_ble_eq_true rfl) rfl rfl (Nat.le_of_ble_eq_true rfl) (Nat.le_of_ble_eq_true rfl) ob_46
theorem E305_197 {d sl : Nat} {p : Nat → Nat} {I : Nat → Nat → Int32} {J : Nat → Nat → Int64} (l1 : Int32) (l2 : Int32) (l3 : Int32) (l4 : Int32) (l5 : Int64) (l7 : Int64) (l9 : Int64) (l11 : Int32)  : ev d 305 197 [.ref 46, .int l1, .int l2, .int l3, .int l4, .long l5, .retAddr 0, .long l7, .retAddr 0, .long l9, .retAddr 0, .int l11] [] (S sl p I J) = ev d 305 56 [.ref 46, .int l1, .int l2, .int l3, .int l4, .long l5, .retAddr 0, .long l7, .retAddr 0, .long l9, .retAddr 0, .int (l11 + 1)] [] (S sl p I J) := by
  refine (r_inc (L' := [.ref 46, .int l1, .int l2, .int l3, .int l4, .long l5, .retAddr 0, .long l7, .retAddr 0, .long l9, .retAddr 0, .int (l11 + 1)]) (dk D305 113 rfl) rfl rfl ci1 (Nat.le_of_ble_eq_true rfl) rfl).trans ?_
  refine (r_goto (L' := [.ref 46, .int l1, .int l2, .int l3, .int l4, .long l5, .retAddr 0, .long l7, .retAddr 0, .long l9, .retAddr 0, .int (l11 + 1)]) (dk D305 114 rfl) rfl nd305_56 rfl).trans ?_
  exact rfl
theorem E305_207 {d sl : Nat} {p : Nat → Nat} {I : Nat → Nat → Int32} {J : Nat → Nat → Int64} (l1 : Int32) (l2 : Int32) (l3 : Int32) (l4 : Int32) (l5 : Int64) (l7 : Int64) (l9 : Int64) (l11 : Int32) (s0 : Int32)  : ev d 305 207 [.ref 46, .int l1, .int l2, .int l3, .int l4, .long l5, .retAddr 0, .long l7, .retAddr 0, .long l9, .retAddr 0, .int l11] [.int s0] (S sl p I J) = some (some (.int s0), (S sl p I J)) := by
  exact r_ret (dk D305 117 rfl) rt305
set_option maxRecDepth 20000 in
theorem D306 : dOK 306 [(0, .iload_n 3, 1), (1, .iconst 0, 1), (2, .sipush 359, 3), (5, .invokestatic 178, 3), (8, .ifCond .eq 17, 3), (11, .iload 4, 2), (13, .sipush (-180), 3), (16, .sipush 180, 3), (19, .invokestatic 178, 3), (22, .ifCond .ne 9, 3), (25, .aload_n 0, 1), (26, .iconst 1, 1), (27, .invokevirtual 183, 3), (30, .ireturn, 1), (31, .aload_n 0, 1), (32, .invokevirtual 339, 3), (35, .aload_n 0, 1), (36, .iload_n 1, 1), (37, .iload_n 2, 1), (38, .invokevirtual 363, 3), (41, .ifCond .eq 19, 3), (44, .aload_n 0, 1), (45, .aload_n 0, 1), (46, .iload_n 1, 1), (47, .iload_n 2, 1), (48, .iload_n 3, 1), (49, .iload 4, 2), (51, .invokevirtual 474, 3), (54, .invokevirtual 193, 3), (57, .goto 8, 3), (60, .aload_n 0, 1), (61, .iconst 2, 1), (62, .invokevirtual 183, 3), (65, .ireturn, 1)] = true := by decide +kernel
theorem E306_0 {d sl : Nat} {p : Nat → Nat} {I : Nat → Nat → Int32} {J : Nat → Nat → Int64} (a1 : Int32) (a2 : Int32) (a3 : Int32) (a4 : Int32)  : den (d + 1) 306 [.ref 46, .int a1, .int a2, .int a3, .int a4] (S sl p I J) = evK (d + 1) 306 8 [.ref 46, .int a1, .int a2, .int a3, .int a4] [] (den d 181 [.int a3, .int 0, .int 359] (S sl p I J)) := by
  refine (show den (d + 1) 306 [.ref 46, .int a1, .int a2, .int a3, .int a4] (S sl p I J) = ev (d + 1) 306 0 [.ref 46, .int a1, .int a2, .int a3, .int a4] [] (S sl p I J) from rfl).trans ?_
  refine (r_iln (dk D306 0 rfl) rfl).trans ?_
  refine (r_ic (dk D306 1 rfl) ci0).trans ?_
  refine (r_sp (dk D306 2 rfl) cs359).trans ?_
  exact r_cs (dk D306 3 rfl) ow306 pn12_178 c12_178 mf181 (Nat.le_of_ble_eq_true rfl) rfl rfl (Nat.le_of_ble_eq_true rfl) (Nat.le_of_ble_eq_true rfl)
theorem E306_8 {d sl : Nat} {p : Nat → Nat} {I : Nat → Nat → Int32} {J : Nat → Nat → Int64} (l1 : Int32) (l2 : Int32) (l3 : Int32) (l4 : Int32) (s0 : Int32)  : ev (d + 1) 306 8 [.ref 46, .int l1, .int l2, .int l3, .int l4] [.int s0] (S sl p I J) = (if s0 = 0 then ev (d + 1) 306 25 [.ref 46, .int l1, .int l2, .int l3, .int l4] [] (S sl p I J) else evK (d + 1) 306 22 [.ref 46, .int l1, .int l2, .int l3, .int l4] [] (den d 181 [.int l4, .int (-180), .int 180] (S sl p I J))) := by
  refine (r_eq0 (dk D306 4 rfl) rfl).trans (ite2 ?_ ?_)
  · exact rfl
  · refine (r_il (dk D306 5 rfl) rfl).trans ?_
    refine (r_sp (dk D306 6 rfl) csm180).trans ?_
    refine (r_sp (dk D306 7 rfl) cs180).trans ?_
    exact r_cs (dk D306 8 rfl) ow306 pn12_178 c12_178 mf181 (Nat.le_of_ble_eq_true rfl) rfl rfl (Nat.le_of_ble_eq_true rfl) (Nat.le_of_ble_eq_true rfl)
theorem E306_22 {d sl : Nat} {p : Nat → Nat} {I : Nat → Nat → Int32} {J : Nat → Nat → Int64} (l1 : Int32) (l2 : Int32) (l3 : Int32) (l4 : Int32) (s0 : Int32)  : ev (d + 1) 306 22 [.ref 46, .int l1, .int l2, .int l3, .int l4] [.int s0] (S sl p I J) = (if s0 = 0 then ev (d + 1) 306 25 [.ref 46, .int l1, .int l2, .int l3, .int l4] [] (S sl p I J) else evK (d + 1) 306 35 [.ref 46, .int l1, .int l2, .int l3, .int l4] [] (den d 221 [.ref 46] (S sl p I J))) := by
  refine (r_ne0 (dk D306 9 rfl) rfl).trans (ite2 ?_ ?_)
  · exact rfl
  · refine (r_aln (dk D306 14 rfl) rfl).trans ?_
    exact r_cv (dk D306 15 rfl) ow306 c12_339 mf221 (Nat.le_of_ble_eq_true rfl) rfl rfl (Nat.le_of_ble_eq_true rfl) (Nat.le_of_ble_eq_true rfl) ob_46
theorem E306_25 {d sl : Nat} {p : Nat → Nat} {I : Nat → Nat → Int32} {J : Nat → Nat → Int64} (l1 : Int32) (l2 : Int32) (l3 : Int32) (l4 : Int32)  : ev (d + 1) 306 25 [.ref 46, .int l1, .int l2, .int l3, .int l4] [] (S sl p I J) = evK (d + 1) 306 30 [.ref 46, .int l1, .int l2, .int l3, .int l4] [] (den d 178 [.ref 46, .int 1] (S sl p I J)) := by
  refine (r_aln (dk D306 10 rfl) rfl).trans ?_
  refine (r_ic (dk D306 11 rfl) ci1).trans ?_
  exact r_cv (dk D306 12 rfl) ow306 c12_183 mf178 (Nat.le_of_ble_eq_true rfl) rfl rfl (Nat.le_of_ble_eq_true rfl) (Nat.le_of_ble_eq_true rfl) ob_46
theorem E306_30 {d sl : Nat} {p : Nat → Nat} {I : Nat → Nat → Int32} {J : Nat → Nat → Int64} (l1 : Int32) (l2 : Int32) (l3 : Int32) (l4 : Int32) (s0 : Int32)  : ev d 306 30 [.ref 46, .int l1, .int l2, .int l3, .int l4] [.int s0] (S sl p I J) = some (some (.int s0), (S sl p I J)) := by
  exact r_ret (dk D306 13 rfl) rt306
theorem E306_35 {d sl : Nat} {p : Nat → Nat} {I : Nat → Nat → Int32} {J : Nat → Nat → Int64} (l1 : Int32) (l2 : Int32) (l3 : Int32) (l4 : Int32)  : ev (d + 1) 306 35 [.ref 46, .int l1, .int l2, .int l3, .int l4] [] (S sl p I J) = evK (d + 1) 306 41 [.ref 46, .int l1, .int l2, .int l3, .int l4] [] (den d 236 [.ref 46, .int l1, .int l2] (S sl p I J)) := by
  refine (r_aln (dk D306 16 rfl) rfl).trans ?_
  refine (r_iln (dk D306 17 rfl) rfl).trans ?_
  refine (r_iln (dk D306 18 rfl) rfl).trans ?_
  exact r_cv (dk D306 19 rfl) ow306 c12_363 mf236 (Nat.le_of_ble_eq_true rfl) rfl rfl (Nat.le_of_ble_eq_true rfl) (Nat.le_of_ble_eq_true rfl) ob_46
theorem E306_41 {d sl : Nat} {p : Nat → Nat} {I : Nat → Nat → Int32} {J : Nat → Nat → Int64} (l1 : Int32) (l2 : Int32) (l3 : Int32) (l4 : Int32) (s0 : Int32)  : ev (d + 1) 306 41 [.ref 46, .int l1, .int l2, .int l3, .int l4] [.int s0] (S sl p I J) = (if s0 = 0 then evK (d + 1) 306 65 [.ref 46, .int l1, .int l2, .int l3, .int l4] [] (den d 178 [.ref 46, .int 2] (S sl p I J)) else evK (d + 1) 306 54 [.ref 46, .int l1, .int l2, .int l3, .int l4] [.ref 46] (den d 305 [.ref 46, .int l1, .int l2, .int l3, .int l4] (S sl p I J))) := by
  refine (r_eq0 (dk D306 20 rfl) rfl).trans (ite2 ?_ ?_)
  · refine (r_aln (dk D306 30 rfl) rfl).trans ?_
    refine (r_ic (dk D306 31 rfl) ci2).trans ?_
    exact r_cv (dk D306 32 rfl) ow306 c12_183 mf178 (Nat.le_of_ble_eq_true rfl) rfl rfl (Nat.le_of_ble_eq_true rfl) (Nat.le_of_ble_eq_true rfl) ob_46
  · refine (r_aln (dk D306 21 rfl) rfl).trans ?_
    refine (r_aln (dk D306 22 rfl) rfl).trans ?_
    refine (r_iln (dk D306 23 rfl) rfl).trans ?_
    refine (r_iln (dk D306 24 rfl) rfl).trans ?_
    refine (r_iln (dk D306 25 rfl) rfl).trans ?_
    refine (r_il (dk D306 26 rfl) rfl).trans ?_
    exact r_cv (dk D306 27 rfl) ow306 c12_474 mf305 (Nat.le_of_ble_eq_true rfl) rfl rfl (Nat.le_of_ble_eq_true rfl) (Nat.le_of_ble_eq_true rfl) ob_46
theorem E306_54 {d sl : Nat} {p : Nat → Nat} {I : Nat → Nat → Int32} {J : Nat → Nat → Int64} (l1 : Int32) (l2 : Int32) (l3 : Int32) (l4 : Int32) (s0 : Int32)  : ev (d + 1) 306 54 [.ref 46, .int l1, .int l2, .int l3, .int l4] [.int s0, .ref 46] (S sl p I J) = evK (d + 1) 306 57 [.ref 46, .int l1, .int l2, .int l3, .int l4] [] (den d 179 [.ref 46, .int s0] (S sl p I J)) := by
  exact r_cv (dk D306 28 rfl) ow306 c12_193 mf179 (Nat.le_of_ble_eq_true rfl) rfl rfl (Nat.le_of_ble_eq_true rfl) (Nat.le_of_ble_eq_true rfl) ob_46
theorem E306_57 {d sl : Nat} {p : Nat → Nat} {I : Nat → Nat → Int32} {J : Nat → Nat → Int64} (l1 : Int32) (l2 : Int32) (l3 : Int32) (l4 : Int32) (s0 : Int32)  : ev d 306 57 [.ref 46, .int l1, .int l2, .int l3, .int l4] [.int s0] (S sl p I J) = some (some (.int s0), (S sl p I J)) := by
  refine (r_goto (L' := [.ref 46, .int l1, .int l2, .int l3, .int l4]) (dk D306 29 rfl) rfl nd306_65 rfl).trans ?_
  exact r_ret (dk D306 33 rfl) rt306
theorem E306_65 {d sl : Nat} {p : Nat → Nat} {I : Nat → Nat → Int32} {J : Nat → Nat → Int64} (l1 : Int32) (l2 : Int32) (l3 : Int32) (l4 : Int32) (s0 : Int32)  : ev d 306 65 [.ref 46, .int l1, .int l2, .int l3, .int l4] [.int s0] (S sl p I J) = some (some (.int s0), (S sl p I J)) := by
  exact r_ret (dk D306 33 rfl) rt306
set_option maxRecDepth 20000 in
theorem D307 : dOK 307 [(0, .iload_n 3, 1), (1, .iconst 0, 1), (2, .sipush 359, 3), (5, .invokestatic 178, 3), (8, .ifCond .eq 13, 3), (11, .iload 4, 2), (13, .iconst 0, 1), (14, .iconst 1, 1), (15, .invokestatic 178, 3), (18, .ifCond .ne 9, 3), (21, .aload_n 0, 1), (22, .iconst 1, 1), (23, .invokevirtual 183, 3), (26, .ireturn, 1), (27, .aload_n 0, 1), (28, .invokevirtual 339, 3), (31, .aload_n 0, 1), (32, .iload_n 1, 1), (33, .iload_n 2, 1), (34, .invokevirtual 363, 3), (37, .ifCond .ne 9, 3), (40, .aload_n 0, 1), (41, .iconst 2, 1), (42, .invokevirtual 183, 3), (45, .ireturn, 1), (46, .iconst 0, 1), (47, .istore 5, 2), (49, .aload_n 0, 1), (50, .iload_n 1, 1), (51, .iload_n 2, 1), (52, .iload_n 3, 1), (53, .iconst 0, 1), (54, .invokevirtual 474, 3), (57, .istore 6, 2), (59, .iconst 1, 1), (60, .istore 7, 2), (62, .iload 7, 2), (64, .bipush 90, 2), (66, .if_icmp .gt 45, 3), (69, .aload_n 0, 1), (70, .iload_n 1, 1), (71, .iload_n 2, 1), (72, .iload_n 3, 1), (73, .iload 7, 2), (75, .invokevirtual 474, 3), (78, .istore 8, 2), (80, .iload 8, 2), (82, .iload 6, 2), (84, .if_icmp .le 8, 3), (87, .iload 7, 2), (89, .goto 5, 3), (92, .iload 5, 2), (94, .istore 5, 2), (96, .iload 6, 2), (98, .iload 8, 2), (100, .invokestatic 318, 3), (103, .istore 6, 2), (105, .iinc 7 1, 3), (108, .goto (-46), 3), (111, .aload_n 0, 1), (112, .iload 4, 2), (114, .ifCond .ne 8, 3), (117, .iload 5, 2), (119, .goto 5, 3), (122, .iload 6, 2), (124, .invokevirtual 193, 3), (127, .ireturn, 1)] = true := by decide +kernel
theorem E307_0 {d sl : Nat} {p : Nat → Nat} {I : Nat → Nat → Int32} {J : Nat → Nat → Int64} (a1 : Int32) (a2 : Int32) (a3 : Int32) (a4 : Int32)  : den (d + 1) 307 [.ref 46, .int a1, .int a2, .int a3, .int a4] (S sl p I J) = evK (d + 1) 307 8 [.ref 46, .int a1, .int a2, .int a3, .int a4, .retAddr 0, .retAddr 0, .retAddr 0, .retAddr 0] [] (den d 181 [.int a3, .int 0, .int 359] (S sl p I J)) := by
  refine (show den (d + 1) 307 [.ref 46, .int a1, .int a2, .int a3, .int a4] (S sl p I J) = ev (d + 1) 307 0 [.ref 46, .int a1, .int a2, .int a3, .int a4, .retAddr 0, .retAddr 0, .retAddr 0, .retAddr 0] [] (S sl p I J) from rfl).trans ?_
  refine (r_iln (dk D307 0 rfl) rfl).trans ?_
  refine (r_ic (dk D307 1 rfl) ci0).trans ?_
  refine (r_sp (dk D307 2 rfl) cs359).trans ?_
  exact r_cs (dk D307 3 rfl) ow307 pn12_178 c12_178 mf181 (Nat.le_of_ble_eq_true rfl) rfl rfl (Nat.le_of_ble_eq_true rfl) (Nat.le_of_ble_eq_true rfl)
theorem E307_8 {d sl : Nat} {p : Nat → Nat} {I : Nat → Nat → Int32} {J : Nat → Nat → Int64} (l1 : Int32) (l2 : Int32) (l3 : Int32) (l4 : Int32) (s0 : Int32)  : ev (d + 1) 307 8 [.ref 46, .int l1, .int l2, .int l3, .int l4, .retAddr 0, .retAddr 0, .retAddr 0, .retAddr 0] [.int s0] (S sl p I J) = (if s0 = 0 then ev (d + 1) 307 21 [.ref 46, .int l1, .int l2, .int l3, .int l4, .retAddr 0, .retAddr 0, .retAddr 0, .retAddr 0] [] (S sl p I J) else evK (d + 1) 307 18 [.ref 46, .int l1, .int l2, .int l3, .int l4, .retAddr 0, .retAddr 0, .retAddr 0, .retAddr 0] [] (den d 181 [.int l4, .int 0, .int 1] (S sl p I J))) := by
  refine (r_eq0 (dk D307 4 rfl) rfl).trans (ite2 ?_ ?_)
  · exact rfl
  · refine (r_il (dk D307 5 rfl) rfl).trans ?_
    refine (r_ic (dk D307 6 rfl) ci0).trans ?_
    refine (r_ic (dk D307 7 rfl) ci1).trans ?_
    exact r_cs (dk D307 8 rfl) ow307 pn12_178 c12_178 mf181 (Nat.le_of_ble_eq_true rfl) rfl rfl (Nat.le_of_ble_eq_true rfl) (Nat.le_of_ble_eq_true rfl)
theorem E307_18 {d sl : Nat} {p : Nat → Nat} {I : Nat → Nat → Int32} {J : Nat → Nat → Int64} (l1 : Int32) (l2 : Int32) (l3 : Int32) (l4 : Int32) (s0 : Int32)  : ev (d + 1) 307 18 [.ref 46, .int l1, .int l2, .int l3, .int l4, .retAddr 0, .retAddr 0, .retAddr 0, .retAddr 0] [.int s0] (S sl p I J) = (if s0 = 0 then ev (d + 1) 307 21 [.ref 46, .int l1, .int l2, .int l3, .int l4, .retAddr 0, .retAddr 0, .retAddr 0, .retAddr 0] [] (S sl p I J) else evK (d + 1) 307 31 [.ref 46, .int l1, .int l2, .int l3, .int l4, .retAddr 0, .retAddr 0, .retAddr 0, .retAddr 0] [] (den d 221 [.ref 46] (S sl p I J))) := by
  refine (r_ne0 (dk D307 9 rfl) rfl).trans (ite2 ?_ ?_)
  · exact rfl
  · refine (r_aln (dk D307 14 rfl) rfl).trans ?_
    exact r_cv (dk D307 15 rfl) ow307 c12_339 mf221 (Nat.le_of_ble_eq_true rfl) rfl rfl (Nat.le_of_ble_eq_true rfl) (Nat.le_of_ble_eq_true rfl) ob_46
theorem E307_21 {d sl : Nat} {p : Nat → Nat} {I : Nat → Nat → Int32} {J : Nat → Nat → Int64} (l1 : Int32) (l2 : Int32) (l3 : Int32) (l4 : Int32)  : ev (d + 1) 307 21 [.ref 46, .int l1, .int l2, .int l3, .int l4, .retAddr 0, .retAddr 0, .retAddr 0, .retAddr 0] [] (S sl p I J) = evK (d + 1) 307 26 [.ref 46, .int l1, .int l2, .int l3, .int l4, .retAddr 0, .retAddr 0, .retAddr 0, .retAddr 0] [] (den d 178 [.ref 46, .int 1] (S sl p I J)) := by
  refine (r_aln (dk D307 10 rfl) rfl).trans ?_
  refine (r_ic (dk D307 11 rfl) ci1).trans ?_
  exact r_cv (dk D307 12 rfl) ow307 c12_183 mf178 (Nat.le_of_ble_eq_true rfl) rfl rfl (Nat.le_of_ble_eq_true rfl) (Nat.le_of_ble_eq_true rfl) ob_46
theorem E307_26 {d sl : Nat} {p : Nat → Nat} {I : Nat → Nat → Int32} {J : Nat → Nat → Int64} (l1 : Int32) (l2 : Int32) (l3 : Int32) (l4 : Int32) (s0 : Int32)  : ev d 307 26 [.ref 46, .int l1, .int l2, .int l3, .int l4, .retAddr 0, .retAddr 0, .retAddr 0, .retAddr 0] [.int s0] (S sl p I J) = some (some (.int s0), (S sl p I J)) := by
  exact r_ret (dk D307 13 rfl) rt307
theorem E307_31 {d sl : Nat} {p : Nat → Nat} {I : Nat → Nat → Int32} {J : Nat → Nat → Int64} (l1 : Int32) (l2 : Int32) (l3 : Int32) (l4 : Int32)  : ev (d + 1) 307 31 [.ref 46, .int l1, .int l2, .int l3, .int l4, .retAddr 0, .retAddr 0, .retAddr 0, .retAddr 0] [] (S sl p I J) = evK (d + 1) 307 37 [.ref 46, .int l1, .int l2, .int l3, .int l4, .retAddr 0, .retAddr 0, .retAddr 0, .retAddr 0] [] (den d 236 [.ref 46, .int l1, .int l2] (S sl p I J)) := by
  refine (r_aln (dk D307 16 rfl) rfl).trans ?_
  refine (r_iln (dk D307 17 rfl) rfl).trans ?_
  refine (r_iln (dk D307 18 rfl) rfl).trans ?_
  exact r_cv (dk D307 19 rfl) ow307 c12_363 mf236 (Nat.le_of_ble_eq_true rfl) rfl rfl (Nat.le_of_ble_eq_true rfl) (Nat.le_of_ble_eq_true rfl) ob_46
theorem E307_37 {d sl : Nat} {p : Nat → Nat} {I : Nat → Nat → Int32} {J : Nat → Nat → Int64} (l1 : Int32) (l2 : Int32) (l3 : Int32) (l4 : Int32) (s0 : Int32)  : ev (d + 1) 307 37 [.ref 46, .int l1, .int l2, .int l3, .int l4, .retAddr 0, .retAddr 0, .retAddr 0, .retAddr 0] [.int s0] (S sl p I J) = (if s0 = 0 then evK (d + 1) 307 45 [.ref 46, .int l1, .int l2, .int l3, .int l4, .retAddr 0, .retAddr 0, .retAddr 0, .retAddr 0] [] (den d 178 [.ref 46, .int 2] (S sl p I J)) else evK (d + 1) 307 57 [.ref 46, .int l1, .int l2, .int l3, .int l4, .int 0, .retAddr 0, .retAddr 0, .retAddr 0] [] (den d 305 [.ref 46, .int l1, .int l2, .int l3, .int 0] (S sl p I J))) := by
  refine (r_ne0 (dk D307 20 rfl) rfl).trans (ite2 ?_ ?_)
  · refine (r_aln (dk D307 21 rfl) rfl).trans ?_
    refine (r_ic (dk D307 22 rfl) ci2).trans ?_
    exact r_cv (dk D307 23 rfl) ow307 c12_183 mf178 (Nat.le_of_ble_eq_true rfl) rfl rfl (Nat.le_of_ble_eq_true rfl) (Nat.le_of_ble_eq_true rfl) ob_46
  · refine (r_ic (dk D307 25 rfl) ci0).trans ?_
    refine (r_is (L' := [.ref 46, .int l1, .int l2, .int l3, .int l4, .int 0, .retAddr 0, .retAddr 0, .retAddr 0]) (dk D307 26 rfl) (Nat.le_of_ble_eq_true rfl) rfl).trans ?_
    refine (r_aln (dk D307 27 rfl) rfl).trans ?_
    refine (r_iln (dk D307 28 rfl) rfl).trans ?_
    refine (r_iln (dk D307 29 rfl) rfl).trans ?_
    refine (r_iln (dk D307 30 rfl) rfl).trans ?_
    refine (r_ic (dk D307 31 rfl) ci0).trans ?_
    exact r_cv (dk D307 32 rfl) ow307 c12_474 mf305 (Nat.le_of_ble_eq_true rfl) rfl rfl (Nat.le_of_ble_eq_true rfl) (Nat.le_of_ble_eq_true rfl) ob_46
theorem E307_45 {d sl : Nat} {p : Nat → Nat} {I : Nat → Nat → Int32} {J : Nat → Nat → Int64} (l1 : Int32) (l2 : Int32) (l3 : Int32) (l4 : Int32) (s0 : Int32)  : ev d 307 45 [.ref 46, .int l1, .int l2, .int l3, .int l4, .retAddr 0, .retAddr 0, .retAddr 0, .retAddr 0] [.int s0] (S sl p I J) = some (some (.int s0), (S sl p I J)) := by
  exact r_ret (dk D307 24 rfl) rt307
theorem E307_57 {d sl : Nat} {p : Nat → Nat} {I : Nat → Nat → Int32} {J : Nat → Nat → Int64} (l1 : Int32) (l2 : Int32) (l3 : Int32) (l4 : Int32) (l5 : Int32) (s0 : Int32)  : ev d 307 57 [.ref 46, .int l1, .int l2, .int l3, .int l4, .int l5, .retAddr 0, .retAddr 0, .retAddr 0] [.int s0] (S sl p I J) = ev d 307 62 [.ref 46, .int l1, .int l2, .int l3, .int l4, .int l5, .int s0, .int 1, .retAddr 0] [] (S sl p I J) := by
  refine (r_is (L' := [.ref 46, .int l1, .int l2, .int l3, .int l4, .int l5, .int s0, .retAddr 0, .retAddr 0]) (dk D307 33 rfl) (Nat.le_of_ble_eq_true rfl) rfl).trans ?_
  refine (r_ic (dk D307 34 rfl) ci1).trans ?_
  refine (r_is (L' := [.ref 46, .int l1, .int l2, .int l3, .int l4, .int l5, .int s0, .int 1, .retAddr 0]) (dk D307 35 rfl) (Nat.le_of_ble_eq_true rfl) rfl).trans ?_
  exact rfl
theorem E307_62 {d sl : Nat} {p : Nat → Nat} {I : Nat → Nat → Int32} {J : Nat → Nat → Int64} (l1 : Int32) (l2 : Int32) (l3 : Int32) (l4 : Int32) (l5 : Int32) (l6 : Int32) (l7 : Int32)  : ev (d + 1) 307 62 [.ref 46, .int l1, .int l2, .int l3, .int l4, .int l5, .int l6, .int l7, .retAddr 0] [] (S sl p I J) = (if l7 ≤ 90 then evK (d + 1) 307 78 [.ref 46, .int l1, .int l2, .int l3, .int l4, .int l5, .int l6, .int l7, .retAddr 0] [] (den d 305 [.ref 46, .int l1, .int l2, .int l3, .int l7] (S sl p I J)) else (if l4 = 0 then ev (d + 1) 307 124 [.ref 46, .int l1, .int l2, .int l3, .int l4, .int l5, .int l6, .int l7, .retAddr 0] [.int l5, .ref 46] (S sl p I J) else ev (d + 1) 307 124 [.ref 46, .int l1, .int l2, .int l3, .int l4, .int l5, .int l6, .int l7, .retAddr 0] [.int l6, .ref 46] (S sl p I J))) := by
  refine (r_il (dk D307 36 rfl) rfl).trans ?_
  refine (r_bp (dk D307 37 rfl) cb90).trans ?_
  refine (r_gt (dk D307 38 rfl) rfl).trans (ite2 ?_ ?_)
  · refine (r_aln (dk D307 39 rfl) rfl).trans ?_
    refine (r_iln (dk D307 40 rfl) rfl).trans ?_
    refine (r_iln (dk D307 41 rfl) rfl).trans ?_
    refine (r_iln (dk D307 42 rfl) rfl).trans ?_
    refine (r_il (dk D307 43 rfl) rfl).trans ?_
    exact r_cv (dk D307 44 rfl) ow307 c12_474 mf305 (Nat.le_of_ble_eq_true rfl) rfl rfl (Nat.le_of_ble_eq_true rfl) (Nat.le_of_ble_eq_true rfl) ob_46
  · refine (r_aln (dk D307 59 rfl) rfl).trans ?_
    refine (r_il (dk D307 60 rfl) rfl).trans ?_
    refine (r_ne0 (dk D307 61 rfl) rfl).trans (ite2 ?_ ?_)
    · refine (r_il (dk D307 62 rfl) rfl).trans ?_
      refine (r_goto (L' := [.ref 46, .int l1, .int l2, .int l3, .int l4, .int l5, .int l6, .int l7, .retAddr 0]) (dk D307 63 rfl) rfl nd307_124 rfl).trans ?_
      exact rfl
    · refine (r_il (dk D307 64 rfl) rfl).trans ?_
      exact rfl
theorem E307_78 {d sl : Nat} {p : Nat → Nat} {I : Nat → Nat → Int32} {J : Nat → Nat → Int64} (l1 : Int32) (l2 : Int32) (l3 : Int32) (l4 : Int32) (l5 : Int32) (l6 : Int32) (l7 : Int32) (s0 : Int32)  : ev (d + 1) 307 78 [.ref 46, .int l1, .int l2, .int l3, .int l4, .int l5, .int l6, .int l7, .retAddr 0] [.int s0] (S sl p I J) = (if s0 ≤ l6 then ev (d + 1) 307 62 [.ref 46, .int l1, .int l2, .int l3, .int l4, .int l5, .int (if l6 < s0 then s0 else l6), .int (l7 + 1), .retAddr 0] [] (S sl p I J) else ev (d + 1) 307 62 [.ref 46, .int l1, .int l2, .int l3, .int l4, .int l7, .int (if l6 < s0 then s0 else l6), .int (l7 + 1), .retAddr 0] [] (S sl p I J)) := by
  refine (r_is (L' := [.ref 46, .int l1, .int l2, .int l3, .int l4, .int l5, .int l6, .int l7, .int s0]) (dk D307 45 rfl) (Nat.le_of_ble_eq_true rfl) rfl).trans ?_
  refine (r_il (dk D307 46 rfl) rfl).trans ?_
  refine (r_il (dk D307 47 rfl) rfl).trans ?_
  refine (r_le (dk D307 48 rfl) rfl).trans (ite2 ?_ ?_)
  · refine (r_il (dk D307 51 rfl) rfl).trans ?_
    refine (r_is (L' := [.ref 46, .int l1, .int l2, .int l3, .int l4, .int l5, .int l6, .int l7, .int s0]) (dk D307 52 rfl) (Nat.le_of_ble_eq_true rfl) rfl).trans ?_
    refine (r_il (dk D307 53 rfl) rfl).trans ?_
    refine (r_il (dk D307 54 rfl) rfl).trans ?_
    refine (r_prm (st' := [.int (if l6 < s0 then s0 else l6)]) (dk D307 55 rfl) ow307 p12_318 (Nat.le_of_ble_eq_true rfl) rfl).trans ?_
    refine (r_is (L' := [.ref 46, .int l1, .int l2, .int l3, .int l4, .int l5, .int (if l6 < s0 then s0 else l6), .int l7, .int s0]) (dk D307 56 rfl) (Nat.le_of_ble_eq_true rfl) rfl).trans ?_
    refine (r_inc (L' := [.ref 46, .int l1, .int l2, .int l3, .int l4, .int l5, .int (if l6 < s0 then s0 else l6), .int (l7 + 1), .int s0]) (dk D307 57 rfl) rfl rfl ci1 (Nat.le_of_ble_eq_true rfl) rfl).trans ?_
    refine (r_goto (L' := [.ref 46, .int l1, .int l2, .int l3, .int l4, .int l5, .int (if l6 < s0 then s0 else l6), .int (l7 + 1), .retAddr 0]) (dk D307 58 rfl) rfl nd307_62 rfl).trans ?_
    exact rfl
  · refine (r_il (dk D307 49 rfl) rfl).trans ?_
    refine (r_goto (L' := [.ref 46, .int l1, .int l2, .int l3, .int l4, .int l5, .int l6, .int l7, .int s0]) (dk D307 50 rfl) rfl nd307_94 rfl).trans ?_
    refine (r_is (L' := [.ref 46, .int l1, .int l2, .int l3, .int l4, .int l7, .int l6, .int l7, .int s0]) (dk D307 52 rfl) (Nat.le_of_ble_eq_true rfl) rfl).trans ?_
    refine (r_il (dk D307 53 rfl) rfl).trans ?_
    refine (r_il (dk D307 54 rfl) rfl).trans ?_
    refine (r_prm (st' := [.int (if l6 < s0 then s0 else l6)]) (dk D307 55 rfl) ow307 p12_318 (Nat.le_of_ble_eq_true rfl) rfl).trans ?_
    refine (r_is (L' := [.ref 46, .int l1, .int l2, .int l3, .int l4, .int l7, .int (if l6 < s0 then s0 else l6), .int l7, .int s0]) (dk D307 56 rfl) (Nat.le_of_ble_eq_true rfl) rfl).trans ?_
    refine (r_inc (L' := [.ref 46, .int l1, .int l2, .int l3, .int l4, .int l7, .int (if l6 < s0 then s0 else l6), .int (l7 + 1), .int s0]) (dk D307 57 rfl) rfl rfl ci1 (Nat.le_of_ble_eq_true rfl) rfl).trans ?_
    refine (r_goto (L' := [.ref 46, .int l1, .int l2, .int l3, .int l4, .int l7, .int (if l6 < s0 then s0 else l6), .int (l7 + 1), .retAddr 0]) (dk D307 58 rfl) rfl nd307_62 rfl).trans ?_
    exact rfl
theorem E307_124 {d sl : Nat} {p : Nat → Nat} {I : Nat → Nat → Int32} {J : Nat → Nat → Int64} (l1 : Int32) (l2 : Int32) (l3 : Int32) (l4 : Int32) (l5 : Int32) (l6 : Int32) (l7 : Int32) (s0 : Int32)  : ev (d + 1) 307 124 [.ref 46, .int l1, .int l2, .int l3, .int l4, .int l5, .int l6, .int l7, .retAddr 0] [.int s0, .ref 46] (S sl p I J) = evK (d + 1) 307 127 [.ref 46, .int l1, .int l2, .int l3, .int l4, .int l5, .int l6, .int l7, .retAddr 0] [] (den d 179 [.ref 46, .int s0] (S sl p I J)) := by
  exact r_cv (dk D307 65 rfl) ow307 c12_193 mf179 (Nat.le_of_ble_eq_true rfl) rfl rfl (Nat.le_of_ble_eq_true rfl) (Nat.le_of_ble_eq_true rfl) ob_46
theorem E307_127 {d sl : Nat} {p : Nat → Nat} {I : Nat → Nat → Int32} {J : Nat → Nat → Int64} (l1 : Int32) (l2 : Int32) (l3 : Int32) (l4 : Int32) (l5 : Int32) (l6 : Int32) (l7 : Int32) (s0 : Int32)  : ev d 307 127 [.ref 46, .int l1, .int l2, .int l3, .int l4, .int l5, .int l6, .int l7, .retAddr 0] [.int s0] (S sl p I J) = some (some (.int s0), (S sl p I J)) := by
  exact r_ret (dk D307 66 rfl) rt307
