set_option maxRecDepth 20000 in
theorem D39 : dOK 39 [(0, .aload_n 0, 1), (1, .getfield 41, 3), (4, .aload_n 0, 1), (5, .getfield 9, 3), (8, .getfield 45, 3), (11, .if_icmp .ne 12, 3), (14, .aload_n 0, 1), (15, .getfield 48, 3), (18, .iload_n 1, 1), (19, .if_icmp .ne 4, 3), (22, .return_, 1), (23, .aload_n 0, 1), (24, .aload_n 0, 1), (25, .getfield 9, 3), (28, .getfield 45, 3), (31, .putfield 41, 3), (34, .aload_n 0, 1), (35, .iload_n 1, 1), (36, .putfield 48, 3), (39, .aload_n 0, 1), (40, .invokevirtual 51, 3), (43, .iconst 1, 1), (44, .istore_n 2, 1), (45, .aload_n 0, 1), (46, .iconst 0, 1), (47, .putfield 54, 3), (50, .iload_n 2, 1), (51, .ifCond .eq 34, 3), (54, .aload_n 0, 1), (55, .getfield 54, 3), (58, .bipush 12, 2), (60, .if_icmp .ge 25, 3), (63, .aload_n 0, 1), (64, .invokevirtual 57, 3), (67, .istore_n 2, 1), (68, .aload_n 0, 1), (69, .invokevirtual 61, 3), (72, .aload_n 0, 1), (73, .dup, 1), (74, .getfield 54, 3), (77, .iconst 1, 1), (78, .iadd, 1), (79, .putfield 54, 3), (82, .goto (-32), 3), (85, .return_, 1)] = true := by decide +kernel
theorem E39_0 {d sl : Nat} {p : Nat → Nat} {I : Nat → Nat → Int32} {J : Nat → Nat → Int64} (a1 : Int32)  : den d 39 [.ref 22, .int a1] (S sl p I J) = (if (I 22 8) = (I 4 10) then (if (I 22 7) = a1 then some (none, (S sl p I J)) else ev d 39 23 [.ref 22, .int a1, .retAddr 0] [] (S sl p I J)) else ev d 39 23 [.ref 22, .int a1, .retAddr 0] [] (S sl p I J)) := by
  refine (show den d 39 [.ref 22, .int a1] (S sl p I J) = ev d 39 0 [.ref 22, .int a1, .retAddr 0] [] (S sl p I J) from rfl).trans ?_
  refine (r_aln (dk D39 0 rfl) rfl).trans ?_
  refine (r_getI (dk D39 1 rfl) ow39 q6_41 ob_22).trans ?_
  refine (r_aln (dk D39 2 rfl) rfl).trans ?_
  refine (r_getR (dk D39 3 rfl) ow39 q6_9 ob_22 rfl).trans ?_
  refine (r_getI (dk D39 4 rfl) ow39 q6_45 ob_4).trans ?_
  refine (r_ne (dk D39 5 rfl) rfl).trans (ite2 ?_ ?_)
  · refine (r_aln (dk D39 6 rfl) rfl).trans ?_
    refine (r_getI (dk D39 7 rfl) ow39 q6_48 ob_22).trans ?_
    refine (r_iln (dk D39 8 rfl) rfl).trans ?_
    refine (r_ne (dk D39 9 rfl) rfl).trans (ite2 ?_ ?_)
    · exact r_rev (dk D39 10 rfl) rt39
    · exact rfl
  · exact rfl
theorem E39_23 {d sl : Nat} {p : Nat → Nat} {I : Nat → Nat → Int32} {J : Nat → Nat → Int64} (l1 : Int32)  : ev (d + 1) 39 23 [.ref 22, .int l1, .retAddr 0] [] (S sl p I J) = evK (d + 1) 39 43 [.ref 22, .int l1, .retAddr 0] [] (den d 40 [.ref 22] (S sl p (up2 (up2 I 22 8 (I 4 10)) 22 7 l1) J)) := by
  refine (r_aln (dk D39 11 rfl) rfl).trans ?_
  refine (r_aln (dk D39 12 rfl) rfl).trans ?_
  refine (r_getR (dk D39 13 rfl) ow39 q6_9 ob_22 rfl).trans ?_
  refine (r_getI (dk D39 14 rfl) ow39 q6_45 ob_4).trans ?_
  refine (r_putI (dk D39 15 rfl) ow39 w6_41 ob_22).trans ?_
  refine (r_aln (dk D39 16 rfl) rfl).trans ?_
  refine (r_iln (dk D39 17 rfl) rfl).trans ?_
  refine (r_putI (dk D39 18 rfl) ow39 w6_48 ob_22).trans ?_
  refine (r_aln (dk D39 19 rfl) rfl).trans ?_
  exact r_cv (dk D39 20 rfl) ow39 c6_51 mf40 (Nat.le_of_ble_eq_true rfl) rfl rfl (Nat.le_of_ble_eq_true rfl) (Nat.le_of_ble_eq_true rfl) ob_22
theorem E39_43 {d sl : Nat} {p : Nat → Nat} {I : Nat → Nat → Int32} {J : Nat → Nat → Int64} (l1 : Int32)  : ev d 39 43 [.ref 22, .int l1, .retAddr 0] [] (S sl p I J) = ev d 39 50 [.ref 22, .int l1, .int 1] [] (S sl p (up2 I 22 6 0) J) := by
  refine (r_ic (dk D39 21 rfl) ci1).trans ?_
  refine (r_isn (L' := [.ref 22, .int l1, .int 1]) (dk D39 22 rfl) (Nat.le_of_ble_eq_true rfl) rfl).trans ?_
  refine (r_aln (dk D39 23 rfl) rfl).trans ?_
  refine (r_ic (dk D39 24 rfl) ci0).trans ?_
  refine (r_putI (dk D39 25 rfl) ow39 w6_54 ob_22).trans ?_
  exact rfl
theorem E39_50 {d sl : Nat} {p : Nat → Nat} {I : Nat → Nat → Int32} {J : Nat → Nat → Int64} (l1 : Int32) (l2 : Int32)  : ev (d + 1) 39 50 [.ref 22, .int l1, .int l2] [] (S sl p I J) = (if l2 = 0 then some (none, (S sl p I J)) else (if (I 22 6) < 12 then evK (d + 1) 39 67 [.ref 22, .int l1, .int l2] [] (den d 41 [.ref 22] (S sl p I J)) else some (none, (S sl p I J)))) := by
  refine (r_iln (dk D39 26 rfl) rfl).trans ?_
  refine (r_eq0 (dk D39 27 rfl) rfl).trans (ite2 ?_ ?_)
  · exact r_rev (dk D39 44 rfl) rt39
  · refine (r_aln (dk D39 28 rfl) rfl).trans ?_
    refine (r_getI (dk D39 29 rfl) ow39 q6_54 ob_22).trans ?_
    refine (r_bp (dk D39 30 rfl) cb12).trans ?_
    refine (r_ge (dk D39 31 rfl) rfl).trans (ite2 ?_ ?_)
    · refine (r_aln (dk D39 32 rfl) rfl).trans ?_
      exact r_cv (dk D39 33 rfl) ow39 c6_57 mf41 (Nat.le_of_ble_eq_true rfl) rfl rfl (Nat.le_of_ble_eq_true rfl) (Nat.le_of_ble_eq_true rfl) ob_22
    · exact r_rev (dk D39 44 rfl) rt39
theorem E39_67 {d sl : Nat} {p : Nat → Nat} {I : Nat → Nat → Int32} {J : Nat → Nat → Int64} (l1 : Int32) (l2 : Int32) (s0 : Int32)  : ev (d + 1) 39 67 [.ref 22, .int l1, .int l2] [.int s0] (S sl p I J) = evK (d + 1) 39 72 [.ref 22, .int l1, .int s0] [] (den d 43 [.ref 22] (S sl p I J)) := by
  refine (r_isn (L' := [.ref 22, .int l1, .int s0]) (dk D39 34 rfl) (Nat.le_of_ble_eq_true rfl) rfl).trans ?_
  refine (r_aln (dk D39 35 rfl) rfl).trans ?_
  exact r_cv (dk D39 36 rfl) ow39 c6_61 mf43 (Nat.le_of_ble_eq_true rfl) rfl rfl (Nat.le_of_ble_eq_true rfl) (Nat.le_of_ble_eq_true rfl) ob_22
theorem E39_72 {d sl : Nat} {p : Nat → Nat} {I : Nat → Nat → Int32} {J : Nat → Nat → Int64} (l1 : Int32) (l2 : Int32)  : ev d 39 72 [.ref 22, .int l1, .int l2] [] (S sl p I J) = ev d 39 50 [.ref 22, .int l1, .int l2] [] (S sl p (up2 I 22 6 ((I 22 6) + 1)) J) := by
  refine (r_aln (dk D39 37 rfl) rfl).trans ?_
  refine (r_dup (dk D39 38 rfl) rfl).trans ?_
  refine (r_getI (dk D39 39 rfl) ow39 q6_54 ob_22).trans ?_
  refine (r_ic (dk D39 40 rfl) ci1).trans ?_
  refine (r_iadd (dk D39 41 rfl)).trans ?_
  refine (r_putI (dk D39 42 rfl) ow39 w6_54 ob_22).trans ?_
  refine (r_goto (L' := [.ref 22, .int l1, .int l2]) (dk D39 43 rfl) rfl nd39_50 rfl).trans ?_
  exact rfl
set_option maxRecDepth 20000 in
theorem D40 : dOK 40 [(0, .iconst 0, 1), (1, .istore_n 1, 1), (2, .iload_n 1, 1), (3, .aload_n 0, 1), (4, .getfield 9, 3), (7, .getfield 64, 3), (10, .if_icmp .ge 24, 3), (13, .aload_n 0, 1), (14, .getfield 23, 3), (17, .iload_n 1, 1), (18, .aload_n 0, 1), (19, .getfield 15, 3), (22, .getfield 67, 3), (25, .iload_n 1, 1), (26, .iaload, 1), (27, .iastore, 1), (28, .iinc 1 1, 3), (31, .goto (-29), 3), (34, .iconst 0, 1), (35, .istore_n 1, 1), (36, .iload_n 1, 1), (37, .aload_n 0, 1), (38, .getfield 15, 3), (41, .getfield 70, 3), (44, .if_icmp .ge 27, 3), (47, .aload_n 0, 1), (48, .getfield 29, 3), (51, .iload_n 1, 1), (52, .aaload, 1), (53, .aload_n 0, 1), (54, .getfield 15, 3), (57, .getfield 73, 3), (60, .iload_n 1, 1), (61, .aaload, 1), (62, .invokevirtual 74, 3), (65, .iinc 1 1, 3), (68, .goto (-32), 3), (71, .return_, 1)] = true := by decide +kernel
theorem E40_0 {d sl : Nat} {p : Nat → Nat} {I : Nat → Nat → Int32} {J : Nat → Nat → Int64}   : den d 40 [.ref 22] (S sl p I J) = ev d 40 2 [.ref 22, .int 0] [] (S sl p I J) := by
  refine (show den d 40 [.ref 22] (S sl p I J) = ev d 40 0 [.ref 22, .retAddr 0] [] (S sl p I J) from rfl).trans ?_
  refine (r_ic (dk D40 0 rfl) ci0).trans ?_
  refine (r_isn (L' := [.ref 22, .int 0]) (dk D40 1 rfl) (Nat.le_of_ble_eq_true rfl) rfl).trans ?_
  exact rfl
theorem E40_2 {d sl : Nat} {p : Nat → Nat} {I : Nat → Nat → Int32} {J : Nat → Nat → Int64} (l1 : Int32)  : ev d 40 2 [.ref 22, .int l1] [] (S sl p I J) = (if l1 < (I 4 8) then ck (ixb 60 l1) (ck (ixb 60 l1) (ev d 40 2 [.ref 22, .int (l1 + 1)] [] (S sl p (up2 I 23 (Int32.toNatClampNeg l1) (I 12 (Int32.toNatClampNeg l1))) J))) else ev d 40 36 [.ref 22, .int 0] [] (S sl p I J)) := by
  refine (r_iln (dk D40 2 rfl) rfl).trans ?_
  refine (r_aln (dk D40 3 rfl) rfl).trans ?_
  refine (r_getR (dk D40 4 rfl) ow40 q6_9 ob_22 rfl).trans ?_
  refine (r_getI (dk D40 5 rfl) ow40 q6_64 ob_4).trans ?_
  refine (r_ge (dk D40 6 rfl) rfl).trans (ite2 ?_ ?_)
  · refine (r_aln (dk D40 7 rfl) rfl).trans ?_
    refine (r_getR (dk D40 8 rfl) ow40 q6_23 ob_22 rfl).trans ?_
    refine (r_iln (dk D40 9 rfl) rfl).trans ?_
    refine (r_aln (dk D40 10 rfl) rfl).trans ?_
    refine (r_getR (dk D40 11 rfl) ow40 q6_15 ob_22 rfl).trans ?_
    refine (r_getR (dk D40 12 rfl) ow40 q6_67 ob_11 rfl).trans ?_
    refine (r_iln (dk D40 13 rfl) rfl).trans ?_
    refine (r_ild (dk D40 14 rfl) ar_12).trans (ck3 fun g1 => ?_)
    refine (r_ist (dk D40 15 rfl) ar_23).trans (ck3 fun g2 => ?_)
    refine (r_inc (L' := [.ref 22, .int (l1 + 1)]) (dk D40 16 rfl) rfl rfl ci1 (Nat.le_of_ble_eq_true rfl) rfl).trans ?_
    refine (r_goto (L' := [.ref 22, .int (l1 + 1)]) (dk D40 17 rfl) rfl nd40_2 rfl).trans ?_
    exact rfl
  · refine (r_ic (dk D40 18 rfl) ci0).trans ?_
    refine (r_isn (L' := [.ref 22, .int 0]) (dk D40 19 rfl) (Nat.le_of_ble_eq_true rfl) rfl).trans ?_
    exact rfl
theorem E40_36 {d sl : Nat} {p : Nat → Nat} {I : Nat → Nat → Int32} {J : Nat → Nat → Int64} (l1 : Int32)  : ev (d + 1) 40 36 [.ref 22, .int l1] [] (S sl p I J) = (if l1 < (I 11 14) then ck (ixb 30 l1) (ck (ixb 30 l1) (evK (d + 1) 40 65 [.ref 22, .int l1] [] (den d 2 [.ref (900 + (Int32.toNatClampNeg l1)), .ref (800 + (Int32.toNatClampNeg l1))] (S sl p I J)))) else some (none, (S sl p I J))) := by
  refine (r_iln (dk D40 20 rfl) rfl).trans ?_
  refine (r_aln (dk D40 21 rfl) rfl).trans ?_
  refine (r_getR (dk D40 22 rfl) ow40 q6_15 ob_22 rfl).trans ?_
  refine (r_getI (dk D40 23 rfl) ow40 q6_70 ob_11).trans ?_
  refine (r_ge (dk D40 24 rfl) rfl).trans (ite2 ?_ ?_)
  · refine (r_aln (dk D40 25 rfl) rfl).trans ?_
    refine (r_getR (dk D40 26 rfl) ow40 q6_29 ob_22 rfl).trans ?_
    refine (r_iln (dk D40 27 rfl) rfl).trans ?_
    refine (r_ald (dk D40 28 rfl) ar_24 (by decide) rfA24).trans (ck3 fun g1 => ?_)
    refine (r_aln (dk D40 29 rfl) rfl).trans ?_
    refine (r_getR (dk D40 30 rfl) ow40 q6_15 ob_22 rfl).trans ?_
    refine (r_getR (dk D40 31 rfl) ow40 q6_73 ob_11 rfl).trans ?_
    refine (r_iln (dk D40 32 rfl) rfl).trans ?_
    refine (r_ald (dk D40 33 rfl) ar_14 (by decide) rfA14).trans (ck3 fun g2 => ?_)
    exact r_cv (dk D40 34 rfl) ow40 c6_74 mf2 (Nat.le_of_ble_eq_true rfl) rfl rfl (Nat.le_of_ble_eq_true rfl) (Nat.le_of_ble_eq_true rfl) (ob900 (ixb_lt g1))
  · exact r_rev (dk D40 37 rfl) rt40
theorem E40_65 {d sl : Nat} {p : Nat → Nat} {I : Nat → Nat → Int32} {J : Nat → Nat → Int64} (l1 : Int32)  : ev d 40 65 [.ref 22, .int l1] [] (S sl p I J) = ev d 40 36 [.ref 22, .int (l1 + 1)] [] (S sl p I J) := by
  refine (r_inc (L' := [.ref 22, .int (l1 + 1)]) (dk D40 35 rfl) rfl rfl ci1 (Nat.le_of_ble_eq_true rfl) rfl).trans ?_
  refine (r_goto (L' := [.ref 22, .int (l1 + 1)]) (dk D40 36 rfl) rfl nd40_36 rfl).trans ?_
  exact rfl
set_option maxRecDepth 20000 in
theorem D41 : dOK 41 [(0, .iconst 0, 1), (1, .istore_n 1, 1), (2, .iconst 0, 1), (3, .istore_n 2, 1), (4, .iload_n 2, 1), (5, .aload_n 0, 1), (6, .getfield 9, 3), (9, .getfield 64, 3), (12, .if_icmp .ge 53, 3), (15, .aload_n 0, 1), (16, .aload_n 0, 1), (17, .getfield 9, 3), (20, .getfield 78, 3), (23, .iload_n 2, 1), (24, .aaload, 1), (25, .getfield 82, 3), (28, .invokevirtual 88, 3), (31, .istore_n 3, 1), (32, .iload_n 1, 1), (33, .ifCond .ne 13, 3), (36, .iload_n 3, 1), (37, .aload_n 0, 1), (38, .getfield 23, 3), (41, .iload_n 2, 1), (42, .iaload, 1), (43, .if_icmp .eq 7, 3), (46, .iconst 1, 1), (47, .goto 4, 3), (50, .iconst 0, 1), (51, .istore_n 1, 1), (52, .aload_n 0, 1), (53, .getfield 23, 3), (56, .iload_n 2, 1), (57, .iload_n 3, 1), (58, .iastore, 1), (59, .iinc 2 1, 3), (62, .goto (-58), 3), (65, .iload_n 1, 1), (66, .ireturn, 1)] = true := by decide +kernel
theorem E41_0 {d sl : Nat} {p : Nat → Nat} {I : Nat → Nat → Int32} {J : Nat → Nat → Int64}   : den d 41 [.ref 22] (S sl p I J) = ev d 41 4 [.ref 22, .int 0, .int 0, .retAddr 0] [] (S sl p I J) := by
  refine (show den d 41 [.ref 22] (S sl p I J) = ev d 41 0 [.ref 22, .retAddr 0, .retAddr 0, .retAddr 0] [] (S sl p I J) from rfl).trans ?_
  refine (r_ic (dk D41 0 rfl) ci0).trans ?_
  refine (r_isn (L' := [.ref 22, .int 0, .retAddr 0, .retAddr 0]) (dk D41 1 rfl) (Nat.le_of_ble_eq_true rfl) rfl).trans ?_
  refine (r_ic (dk D41 2 rfl) ci0).trans ?_
  refine (r_isn (L' := [.ref 22, .int 0, .int 0, .retAddr 0]) (dk D41 3 rfl) (Nat.le_of_ble_eq_true rfl) rfl).trans ?_
  exact rfl
theorem E41_4 {d sl : Nat} {p : Nat → Nat} {I : Nat → Nat → Int32} {J : Nat → Nat → Int64} (l1 : Int32) (l2 : Int32) (hp : ∀ k, p k < 60)  : ev (d + 1) 41 4 [.ref 22, .int l1, .int l2, .retAddr 0] [] (S sl p I J) = (if l2 < (I 4 8) then ck (ixb 60 l2) (evK (d + 1) 41 31 [.ref 22, .int l1, .int l2, .retAddr 0] [] (den d 42 [.ref 22, .ref (300 + p (Int32.toNatClampNeg l2))] (S sl p I J))) else ck (decide (l1 = 0 ∨ l1 = 1)) (some (some (.int l1), (S sl p I J)))) := by
  refine (r_iln (dk D41 4 rfl) rfl).trans ?_
  refine (r_aln (dk D41 5 rfl) rfl).trans ?_
  refine (r_getR (dk D41 6 rfl) ow41 q6_9 ob_22 rfl).trans ?_
  refine (r_getI (dk D41 7 rfl) ow41 q6_64 ob_4).trans ?_
  refine (r_ge (dk D41 8 rfl) rfl).trans (ite2 ?_ ?_)
  · refine (r_aln (dk D41 9 rfl) rfl).trans ?_
    refine (r_aln (dk D41 10 rfl) rfl).trans ?_
    refine (r_getR (dk D41 11 rfl) ow41 q6_9 ob_22 rfl).trans ?_
    refine (r_getR (dk D41 12 rfl) ow41 q6_78 ob_4 rfl).trans ?_
    refine (r_iln (dk D41 13 rfl) rfl).trans ?_
    refine (r_ald (dk D41 14 rfl) ar_9 (by decide) rfA9).trans (ck3 fun g1 => ?_)
    refine (r_getR (dk D41 15 rfl) ow41 q6_82 (obC (hp (Int32.toNatClampNeg l2))) (rfC (hp (Int32.toNatClampNeg l2)))).trans ?_
    exact r_cv (dk D41 16 rfl) ow41 c6_88 mf42 (Nat.le_of_ble_eq_true rfl) rfl rfl (Nat.le_of_ble_eq_true rfl) (Nat.le_of_ble_eq_true rfl) ob_22
  · refine (r_iln (dk D41 37 rfl) rfl).trans ?_
    exact r_rezc (dk D41 38 rfl) rt41
theorem E41_31 {d sl : Nat} {p : Nat → Nat} {I : Nat → Nat → Int32} {J : Nat → Nat → Int64} (l1 : Int32) (l2 : Int32) (s0 : Int32)  : ev d 41 31 [.ref 22, .int l1, .int l2, .retAddr 0] [.int s0] (S sl p I J) = (if l1 = 0 then ck (ixb 60 l2) ((if s0 = (I 23 (Int32.toNatClampNeg l2)) then ck (ixb 60 l2) (ev d 41 4 [.ref 22, .int 0, .int (l2 + 1), .retAddr 0] [] (S sl p (up2 I 23 (Int32.toNatClampNeg l2) s0) J)) else ck (ixb 60 l2) (ev d 41 4 [.ref 22, .int 1, .int (l2 + 1), .retAddr 0] [] (S sl p (up2 I 23 (Int32.toNatClampNeg l2) s0) J)))) else ck (ixb 60 l2) (ev d 41 4 [.ref 22, .int 1, .int (l2 + 1), .retAddr 0] [] (S sl p (up2 I 23 (Int32.toNatClampNeg l2) s0) J))) := by
  refine (r_isn (L' := [.ref 22, .int l1, .int l2, .int s0]) (dk D41 17 rfl) (Nat.le_of_ble_eq_true rfl) rfl).trans ?_
  refine (r_iln (dk D41 18 rfl) rfl).trans ?_
  refine (r_ne0 (dk D41 19 rfl) rfl).trans (ite2 ?_ ?_)
  · refine (r_iln (dk D41 20 rfl) rfl).trans ?_
    refine (r_aln (dk D41 21 rfl) rfl).trans ?_
    refine (r_getR (dk D41 22 rfl) ow41 q6_23 ob_22 rfl).trans ?_
    refine (r_iln (dk D41 23 rfl) rfl).trans ?_
    refine (r_ild (dk D41 24 rfl) ar_23).trans (ck3 fun g1 => ?_)
    refine (r_eq (dk D41 25 rfl) rfl).trans (ite2 ?_ ?_)
    · refine (r_ic (dk D41 28 rfl) ci0).trans ?_
      refine (r_isn (L' := [.ref 22, .int 0, .int l2, .int s0]) (dk D41 29 rfl) (Nat.le_of_ble_eq_true rfl) rfl).trans ?_
      refine (r_aln (dk D41 30 rfl) rfl).trans ?_
      refine (r_getR (dk D41 31 rfl) ow41 q6_23 ob_22 rfl).trans ?_
      refine (r_iln (dk D41 32 rfl) rfl).trans ?_
      refine (r_iln (dk D41 33 rfl) rfl).trans ?_
      refine (r_ist (dk D41 34 rfl) ar_23).trans (ck3 fun g2 => ?_)
      refine (r_inc (L' := [.ref 22, .int 0, .int (l2 + 1), .int s0]) (dk D41 35 rfl) rfl rfl ci1 (Nat.le_of_ble_eq_true rfl) rfl).trans ?_
      refine (r_goto (L' := [.ref 22, .int 0, .int (l2 + 1), .retAddr 0]) (dk D41 36 rfl) rfl nd41_4 rfl).trans ?_
      exact rfl
    · refine (r_ic (dk D41 26 rfl) ci1).trans ?_
      refine (r_goto (L' := [.ref 22, .int l1, .int l2, .int s0]) (dk D41 27 rfl) rfl nd41_51 rfl).trans ?_
      refine (r_isn (L' := [.ref 22, .int 1, .int l2, .int s0]) (dk D41 29 rfl) (Nat.le_of_ble_eq_true rfl) rfl).trans ?_
      refine (r_aln (dk D41 30 rfl) rfl).trans ?_
      refine (r_getR (dk D41 31 rfl) ow41 q6_23 ob_22 rfl).trans ?_
      refine (r_iln (dk D41 32 rfl) rfl).trans ?_
      refine (r_iln (dk D41 33 rfl) rfl).trans ?_
      refine (r_ist (dk D41 34 rfl) ar_23).trans (ck3 fun g3 => ?_)
      refine (r_inc (L' := [.ref 22, .int 1, .int (l2 + 1), .int s0]) (dk D41 35 rfl) rfl rfl ci1 (Nat.le_of_ble_eq_true rfl) rfl).trans ?_
      refine (r_goto (L' := [.ref 22, .int 1, .int (l2 + 1), .retAddr 0]) (dk D41 36 rfl) rfl nd41_4 rfl).trans ?_
      exact rfl
  · refine (r_ic (dk D41 26 rfl) ci1).trans ?_
    refine (r_goto (L' := [.ref 22, .int l1, .int l2, .int s0]) (dk D41 27 rfl) rfl nd41_51 rfl).trans ?_
    refine (r_isn (L' := [.ref 22, .int 1, .int l2, .int s0]) (dk D41 29 rfl) (Nat.le_of_ble_eq_true rfl) rfl).trans ?_
    refine (r_aln (dk D41 30 rfl) rfl).trans ?_
    refine (r_getR (dk D41 31 rfl) ow41 q6_23 ob_22 rfl).trans ?_
    refine (r_iln (dk D41 32 rfl) rfl).trans ?_
    refine (r_iln (dk D41 33 rfl) rfl).trans ?_
    refine (r_ist (dk D41 34 rfl) ar_23).trans (ck3 fun g4 => ?_)
    refine (r_inc (L' := [.ref 22, .int 1, .int (l2 + 1), .int s0]) (dk D41 35 rfl) rfl rfl ci1 (Nat.le_of_ble_eq_true rfl) rfl).trans ?_
    refine (r_goto (L' := [.ref 22, .int 1, .int (l2 + 1), .retAddr 0]) (dk D41 36 rfl) rfl nd41_4 rfl).trans ?_
    exact rfl
set_option maxRecDepth 20000 in
theorem D42 : dOK 42 [(0, .aload_n 0, 1), (1, .getfield 19, 3), (4, .aload_n 1, 1), (5, .aload_n 0, 1), (6, .getfield 29, 3), (9, .aload_n 0, 1), (10, .getfield 15, 3), (13, .getfield 70, 3), (16, .invokevirtual 92, 3), (19, .istore_n 2, 1), (20, .iload_n 2, 1), (21, .ifCond .lt 24, 3), (24, .aload_n 0, 1), (25, .getfield 19, 3), (28, .aload_n 1, 1), (29, .aload_n 0, 1), (30, .getfield 29, 3), (33, .iload_n 2, 1), (34, .aaload, 1), (35, .invokevirtual 98, 3), (38, .aload_n 0, 1), (39, .getfield 48, 3), (42, .if_icmp .le 5, 3), (45, .iconst (-1), 1), (46, .ireturn, 1), (47, .iload_n 2, 1), (48, .ireturn, 1)] = true := by decide +kernel
theorem E42_0 {d sl : Nat} {p : Nat → Nat} {I : Nat → Nat → Int32} {J : Nat → Nat → Int64} {a1 : Nat} (h1 : ob a1 0) : den (d + 1) 42 [.ref 22, .ref a1] (S sl p I J) = evK (d + 1) 42 19 [.ref 22, .ref a1, .retAddr 0] [] (den d 32 [.ref 2, .ref a1, .ref 24, .int (I 11 14)] (S sl p I J)) := by
  refine (show den (d + 1) 42 [.ref 22, .ref a1] (S sl p I J) = ev (d + 1) 42 0 [.ref 22, .ref a1, .retAddr 0] [] (S sl p I J) from rfl).trans ?_
  refine (r_aln (dk D42 0 rfl) rfl).trans ?_
  refine (r_getR (dk D42 1 rfl) ow42 q6_19 ob_22 rfl).trans ?_
  refine (r_aln (dk D42 2 rfl) rfl).trans ?_
  refine (r_aln (dk D42 3 rfl) rfl).trans ?_
  refine (r_getR (dk D42 4 rfl) ow42 q6_29 ob_22 rfl).trans ?_
  refine (r_aln (dk D42 5 rfl) rfl).trans ?_
  refine (r_getR (dk D42 6 rfl) ow42 q6_15 ob_22 rfl).trans ?_
  refine (r_getI (dk D42 7 rfl) ow42 q6_70 ob_11).trans ?_
  exact r_cv (dk D42 8 rfl) ow42 c6_92 mf32 (Nat.le_of_ble_eq_true rfl) rfl rfl (Nat.le_of_ble_eq_true rfl) (Nat.le_of_ble_eq_true rfl) ob_2
theorem E42_19 {d sl : Nat} {p : Nat → Nat} {I : Nat → Nat → Int32} {J : Nat → Nat → Int64} {l1 : Nat} (s0 : Int32) (hl1 : ob l1 0) : ev (d + 1) 42 19 [.ref 22, .ref l1, .retAddr 0] [.int s0] (S sl p I J) = (if s0 < 0 then some (some (.int (-1)), (S sl p I J)) else ck (ixb 30 s0) (evK (d + 1) 42 38 [.ref 22, .ref l1, .int s0] [] (den d 31 [.ref 2, .ref l1, .ref (900 + (Int32.toNatClampNeg s0))] (S sl p I J)))) := by
  refine (r_isn (L' := [.ref 22, .ref l1, .int s0]) (dk D42 9 rfl) (Nat.le_of_ble_eq_true rfl) rfl).trans ?_
  refine (r_iln (dk D42 10 rfl) rfl).trans ?_
  refine (r_lt0 (dk D42 11 rfl) rfl).trans (ite2 ?_ ?_)
  · refine (r_ic (dk D42 23 rfl) cim1).trans ?_
    exact r_ret (dk D42 24 rfl) rt42
  · refine (r_aln (dk D42 12 rfl) rfl).trans ?_
    refine (r_getR (dk D42 13 rfl) ow42 q6_19 ob_22 rfl).trans ?_
    refine (r_aln (dk D42 14 rfl) rfl).trans ?_
    refine (r_aln (dk D42 15 rfl) rfl).trans ?_
    refine (r_getR (dk D42 16 rfl) ow42 q6_29 ob_22 rfl).trans ?_
    refine (r_iln (dk D42 17 rfl) rfl).trans ?_
    refine (r_ald (dk D42 18 rfl) ar_24 (by decide) rfA24).trans (ck3 fun g1 => ?_)
    exact r_cv (dk D42 19 rfl) ow42 c6_98 mf31 (Nat.le_of_ble_eq_true rfl) rfl rfl (Nat.le_of_ble_eq_true rfl) (Nat.le_of_ble_eq_true rfl) ob_2
theorem E42_38 {d sl : Nat} {p : Nat → Nat} {I : Nat → Nat → Int32} {J : Nat → Nat → Int64} {l1 : Nat} (l2 : Int32) (s0 : Int32) (hl1 : ob l1 0) : ev d 42 38 [.ref 22, .ref l1, .int l2] [.int s0] (S sl p I J) = (if s0 ≤ (I 22 7) then some (some (.int l2), (S sl p I J)) else some (some (.int (-1)), (S sl p I J))) := by
  refine (r_aln (dk D42 20 rfl) rfl).trans ?_
  refine (r_getI (dk D42 21 rfl) ow42 q6_48 ob_22).trans ?_
  refine (r_le (dk D42 22 rfl) rfl).trans (ite2 ?_ ?_)
  · refine (r_iln (dk D42 25 rfl) rfl).trans ?_
    exact r_ret (dk D42 26 rfl) rt42
  · refine (r_ic (dk D42 23 rfl) cim1).trans ?_
    exact r_ret (dk D42 24 rfl) rt42
set_option maxRecDepth 20000 in
theorem D43 : dOK 43 [(0, .iconst 0, 1), (1, .istore_n 1, 1), (2, .iload_n 1, 1), (3, .aload_n 0, 1), (4, .getfield 15, 3), (7, .getfield 70, 3), (10, .if_icmp .ge 95, 3), (13, .aload_n 0, 1), (14, .getfield 37, 3), (17, .invokevirtual 102, 3), (20, .iconst 0, 1), (21, .istore_n 2, 1), (22, .iload_n 2, 1), (23, .aload_n 0, 1), (24, .getfield 9, 3), (27, .getfield 64, 3), (30, .if_icmp .ge 56, 3), (33, .aload_n 0, 1), (34, .getfield 23, 3), (37, .iload_n 2, 1), (38, .iaload, 1), (39, .iload_n 1, 1), (40, .if_icmp .ne 40, 3), (43, .aload_n 0, 1), (44, .getfield 37, 3), (47, .aload_n 0, 1), (48, .getfield 9, 3), (51, .getfield 78, 3), (54, .iload_n 2, 1), (55, .aaload, 1), (56, .getfield 105, 3), (59, .aload_n 0, 1), (60, .getfield 9, 3), (63, .getfield 78, 3), (66, .iload_n 2, 1), (67, .aaload, 1), (68, .getfield 82, 3), (71, .aload_n 0, 1), (72, .getfield 29, 3), (75, .iload_n 1, 1), (76, .aaload, 1), (77, .invokevirtual 108, 3), (80, .iinc 2 1, 3), (83, .goto (-61), 3), (86, .aload_n 0, 1), (87, .getfield 37, 3), (90, .aload_n 0, 1), (91, .getfield 29, 3), (94, .iload_n 1, 1), (95, .aaload, 1), (96, .invokevirtual 112, 3), (99, .iinc 1 1, 3), (102, .goto (-100), 3), (105, .return_, 1)] = true := by decide +kernel
theorem E43_0 {d sl : Nat} {p : Nat → Nat} {I : Nat → Nat → Int32} {J : Nat → Nat → Int64}   : den d 43 [.ref 22] (S sl p I J) = ev d 43 2 [.ref 22, .int 0, .retAddr 0] [] (S sl p I J) := by
  refine (show den d 43 [.ref 22] (S sl p I J) = ev d 43 0 [.ref 22, .retAddr 0, .retAddr 0] [] (S sl p I J) from rfl).trans ?_
  refine (r_ic (dk D43 0 rfl) ci0).trans ?_
  refine (r_isn (L' := [.ref 22, .int 0, .retAddr 0]) (dk D43 1 rfl) (Nat.le_of_ble_eq_true rfl) rfl).trans ?_
  exact rfl
theorem E43_2 {d sl : Nat} {p : Nat → Nat} {I : Nat → Nat → Int32} {J : Nat → Nat → Int64} (l1 : Int32)  : ev (d + 1) 43 2 [.ref 22, .int l1, .retAddr 0] [] (S sl p I J) = (if l1 < (I 11 14) then evK (d + 1) 43 20 [.ref 22, .int l1, .retAddr 0] [] (den d 16 [.ref 25] (S sl p I J)) else some (none, (S sl p I J))) := by
  refine (r_iln (dk D43 2 rfl) rfl).trans ?_
  refine (r_aln (dk D43 3 rfl) rfl).trans ?_
  refine (r_getR (dk D43 4 rfl) ow43 q6_15 ob_22 rfl).trans ?_
  refine (r_getI (dk D43 5 rfl) ow43 q6_70 ob_11).trans ?_
  refine (r_ge (dk D43 6 rfl) rfl).trans (ite2 ?_ ?_)
  · refine (r_aln (dk D43 7 rfl) rfl).trans ?_
    refine (r_getR (dk D43 8 rfl) ow43 q6_37 ob_22 rfl).trans ?_
    exact r_cv (dk D43 9 rfl) ow43 c6_102 mf16 (Nat.le_of_ble_eq_true rfl) rfl rfl (Nat.le_of_ble_eq_true rfl) (Nat.le_of_ble_eq_true rfl) ob_25
  · exact r_rev (dk D43 53 rfl) rt43
theorem E43_20 {d sl : Nat} {p : Nat → Nat} {I : Nat → Nat → Int32} {J : Nat → Nat → Int64} (l1 : Int32)  : ev d 43 20 [.ref 22, .int l1, .retAddr 0] [] (S sl p I J) = ev d 43 22 [.ref 22, .int l1, .int 0] [] (S sl p I J) := by
  refine (r_ic (dk D43 10 rfl) ci0).trans ?_
  refine (r_isn (L' := [.ref 22, .int l1, .int 0]) (dk D43 11 rfl) (Nat.le_of_ble_eq_true rfl) rfl).trans ?_
  exact rfl
theorem E43_22 {d sl : Nat} {p : Nat → Nat} {I : Nat → Nat → Int32} {J : Nat → Nat → Int64} (l1 : Int32) (l2 : Int32) (hp : ∀ k, p k < 60)  : ev (d + 1) 43 22 [.ref 22, .int l1, .int l2] [] (S sl p I J) = (if l2 < (I 4 8) then ck (ixb 60 l2) ((if (I 23 (Int32.toNatClampNeg l2)) = l1 then ck (ixb 60 l2) (ck (ixb 60 l2) (ck (ixb 30 l1) (evK (d + 1) 43 80 [.ref 22, .int l1, .int l2] [] (den d 17 [.ref 25, .int (I (200 + p (Int32.toNatClampNeg l2)) 8), .ref (300 + p (Int32.toNatClampNeg l2)), .ref (900 + (Int32.toNatClampNeg l1))] (S sl p I J))))) else ev (d + 1) 43 22 [.ref 22, .int l1, .int (l2 + 1)] [] (S sl p I J))) else ck (ixb 30 l1) (evK (d + 1) 43 99 [.ref 22, .int l1, .int l2] [] (den d 20 [.ref 25, .ref (900 + (Int32.toNatClampNeg l1))] (S sl p I J)))) := by
  refine (r_iln (dk D43 12 rfl) rfl).trans ?_
  refine (r_aln (dk D43 13 rfl) rfl).trans ?_
  refine (r_getR (dk D43 14 rfl) ow43 q6_9 ob_22 rfl).trans ?_
  refine (r_getI (dk D43 15 rfl) ow43 q6_64 ob_4).trans ?_
  refine (r_ge (dk D43 16 rfl) rfl).trans (ite2 ?_ ?_)
  · refine (r_aln (dk D43 17 rfl) rfl).trans ?_
    refine (r_getR (dk D43 18 rfl) ow43 q6_23 ob_22 rfl).trans ?_
    refine (r_iln (dk D43 19 rfl) rfl).trans ?_
    refine (r_ild (dk D43 20 rfl) ar_23).trans (ck3 fun g1 => ?_)
    refine (r_iln (dk D43 21 rfl) rfl).trans ?_
    refine (r_ne (dk D43 22 rfl) rfl).trans (ite2 ?_ ?_)
    · refine (r_aln (dk D43 23 rfl) rfl).trans ?_
      refine (r_getR (dk D43 24 rfl) ow43 q6_37 ob_22 rfl).trans ?_
      refine (r_aln (dk D43 25 rfl) rfl).trans ?_
      refine (r_getR (dk D43 26 rfl) ow43 q6_9 ob_22 rfl).trans ?_
      refine (r_getR (dk D43 27 rfl) ow43 q6_78 ob_4 rfl).trans ?_
      refine (r_iln (dk D43 28 rfl) rfl).trans ?_
      refine (r_ald (dk D43 29 rfl) ar_9 (by decide) rfA9).trans (ck3 fun g2 => ?_)
      refine (r_getI (dk D43 30 rfl) ow43 q6_105 (obC (hp (Int32.toNatClampNeg l2)))).trans ?_
      refine (r_aln (dk D43 31 rfl) rfl).trans ?_
      refine (r_getR (dk D43 32 rfl) ow43 q6_9 ob_22 rfl).trans ?_
      refine (r_getR (dk D43 33 rfl) ow43 q6_78 ob_4 rfl).trans ?_
      refine (r_iln (dk D43 34 rfl) rfl).trans ?_
      refine (r_ald (dk D43 35 rfl) ar_9 (by decide) rfA9).trans (ck3 fun g3 => ?_)
      refine (r_getR (dk D43 36 rfl) ow43 q6_82 (obC (hp (Int32.toNatClampNeg l2))) (rfC (hp (Int32.toNatClampNeg l2)))).trans ?_
      refine (r_aln (dk D43 37 rfl) rfl).trans ?_
      refine (r_getR (dk D43 38 rfl) ow43 q6_29 ob_22 rfl).trans ?_
      refine (r_iln (dk D43 39 rfl) rfl).trans ?_
      refine (r_ald (dk D43 40 rfl) ar_24 (by decide) rfA24).trans (ck3 fun g4 => ?_)
      exact r_cv (dk D43 41 rfl) ow43 c6_108 mf17 (Nat.le_of_ble_eq_true rfl) rfl rfl (Nat.le_of_ble_eq_true rfl) (Nat.le_of_ble_eq_true rfl) ob_25
    · refine (r_inc (L' := [.ref 22, .int l1, .int (l2 + 1)]) (dk D43 42 rfl) rfl rfl ci1 (Nat.le_of_ble_eq_true rfl) rfl).trans ?_
      refine (r_goto (L' := [.ref 22, .int l1, .int (l2 + 1)]) (dk D43 43 rfl) rfl nd43_22 rfl).trans ?_
      exact rfl
  · refine (r_aln (dk D43 44 rfl) rfl).trans ?_
    refine (r_getR (dk D43 45 rfl) ow43 q6_37 ob_22 rfl).trans ?_
    refine (r_aln (dk D43 46 rfl) rfl).trans ?_
    refine (r_getR (dk D43 47 rfl) ow43 q6_29 ob_22 rfl).trans ?_
    refine (r_iln (dk D43 48 rfl) rfl).trans ?_
    refine (r_ald (dk D43 49 rfl) ar_24 (by decide) rfA24).trans (ck3 fun g5 => ?_)
    exact r_cv (dk D43 50 rfl) ow43 c6_112 mf20 (Nat.le_of_ble_eq_true rfl) rfl rfl (Nat.le_of_ble_eq_true rfl) (Nat.le_of_ble_eq_true rfl) ob_25
theorem E43_80 {d sl : Nat} {p : Nat → Nat} {I : Nat → Nat → Int32} {J : Nat → Nat → Int64} (l1 : Int32) (l2 : Int32)  : ev d 43 80 [.ref 22, .int l1, .int l2] [] (S sl p I J) = ev d 43 22 [.ref 22, .int l1, .int (l2 + 1)] [] (S sl p I J) := by
  refine (r_inc (L' := [.ref 22, .int l1, .int (l2 + 1)]) (dk D43 42 rfl) rfl rfl ci1 (Nat.le_of_ble_eq_true rfl) rfl).trans ?_
  refine (r_goto (L' := [.ref 22, .int l1, .int (l2 + 1)]) (dk D43 43 rfl) rfl nd43_22 rfl).trans ?_
  exact rfl
theorem E43_99 {d sl : Nat} {p : Nat → Nat} {I : Nat → Nat → Int32} {J : Nat → Nat → Int64} (l1 : Int32) (l2 : Int32)  : ev d 43 99 [.ref 22, .int l1, .int l2] [] (S sl p I J) = ev d 43 2 [.ref 22, .int (l1 + 1), .retAddr 0] [] (S sl p I J) := by
  refine (r_inc (L' := [.ref 22, .int (l1 + 1), .int l2]) (dk D43 51 rfl) rfl rfl ci1 (Nat.le_of_ble_eq_true rfl) rfl).trans ?_
  refine (r_goto (L' := [.ref 22, .int (l1 + 1), .retAddr 0]) (dk D43 52 rfl) rfl nd43_2 rfl).trans ?_
  exact rfl
set_option maxRecDepth 20000 in
theorem D44 : dOK 44 [(0, .iconst 0, 1), (1, .istore_n 1, 1), (2, .iconst 0, 1), (3, .istore_n 2, 1), (4, .iload_n 2, 1), (5, .aload_n 0, 1), (6, .getfield 9, 3), (9, .getfield 64, 3), (12, .if_icmp .ge 30, 3), (15, .aload_n 0, 1), (16, .getfield 23, 3), (19, .iload_n 2, 1), (20, .iaload, 1), (21, .aload_n 0, 1), (22, .getfield 15, 3), (25, .getfield 67, 3), (28, .iload_n 2, 1), (29, .iaload, 1), (30, .if_icmp .eq 6, 3), (33, .iinc 1 1, 3), (36, .iinc 2 1, 3), (39, .goto (-35), 3), (42, .iload_n 1, 1), (43, .ireturn, 1)] = true := by decide +kernel
theorem E44_0 {d sl : Nat} {p : Nat → Nat} {I : Nat → Nat → Int32} {J : Nat → Nat → Int64}   : den d 44 [.ref 22] (S sl p I J) = ev d 44 4 [.ref 22, .int 0, .int 0] [] (S sl p I J) := by
  refine (show den d 44 [.ref 22] (S sl p I J) = ev d 44 0 [.ref 22, .retAddr 0, .retAddr 0] [] (S sl p I J) from rfl).trans ?_
  refine (r_ic (dk D44 0 rfl) ci0).trans ?_
  refine (r_isn (L' := [.ref 22, .int 0, .retAddr 0]) (dk D44 1 rfl) (Nat.le_of_ble_eq_true rfl) rfl).trans ?_
  refine (r_ic (dk D44 2 rfl) ci0).trans ?_
  refine (r_isn (L' := [.ref 22, .int 0, .int 0]) (dk D44 3 rfl) (Nat.le_of_ble_eq_true rfl) rfl).trans ?_
  exact rfl
theorem E44_4 {d sl : Nat} {p : Nat → Nat} {I : Nat → Nat → Int32} {J : Nat → Nat → Int64} (l1 : Int32) (l2 : Int32)  : ev d 44 4 [.ref 22, .int l1, .int l2] [] (S sl p I J) = (if l2 < (I 4 8) then ck (ixb 60 l2) (ck (ixb 60 l2) ((if (I 23 (Int32.toNatClampNeg l2)) = (I 12 (Int32.toNatClampNeg l2)) then ev d 44 4 [.ref 22, .int l1, .int (l2 + 1)] [] (S sl p I J) else ev d 44 4 [.ref 22, .int (l1 + 1), .int (l2 + 1)] [] (S sl p I J)))) else some (some (.int l1), (S sl p I J))) := by
  refine (r_iln (dk D44 4 rfl) rfl).trans ?_
  refine (r_aln (dk D44 5 rfl) rfl).trans ?_
  refine (r_getR (dk D44 6 rfl) ow44 q6_9 ob_22 rfl).trans ?_
  refine (r_getI (dk D44 7 rfl) ow44 q6_64 ob_4).trans ?_
  refine (r_ge (dk D44 8 rfl) rfl).trans (ite2 ?_ ?_)
  · refine (r_aln (dk D44 9 rfl) rfl).trans ?_
    refine (r_getR (dk D44 10 rfl) ow44 q6_23 ob_22 rfl).trans ?_
    refine (r_iln (dk D44 11 rfl) rfl).trans ?_
    refine (r_ild (dk D44 12 rfl) ar_23).trans (ck3 fun g1 => ?_)
    refine (r_aln (dk D44 13 rfl) rfl).trans ?_
    refine (r_getR (dk D44 14 rfl) ow44 q6_15 ob_22 rfl).trans ?_
    refine (r_getR (dk D44 15 rfl) ow44 q6_67 ob_11 rfl).trans ?_
    refine (r_iln (dk D44 16 rfl) rfl).trans ?_
    refine (r_ild (dk D44 17 rfl) ar_12).trans (ck3 fun g2 => ?_)
    refine (r_eq (dk D44 18 rfl) rfl).trans (ite2 ?_ ?_)
    · refine (r_inc (L' := [.ref 22, .int l1, .int (l2 + 1)]) (dk D44 20 rfl) rfl rfl ci1 (Nat.le_of_ble_eq_true rfl) rfl).trans ?_
      refine (r_goto (L' := [.ref 22, .int l1, .int (l2 + 1)]) (dk D44 21 rfl) rfl nd44_4 rfl).trans ?_
      exact rfl
    · refine (r_inc (L' := [.ref 22, .int (l1 + 1), .int l2]) (dk D44 19 rfl) rfl rfl ci1 (Nat.le_of_ble_eq_true rfl) rfl).trans ?_
      refine (r_inc (L' := [.ref 22, .int (l1 + 1), .int (l2 + 1)]) (dk D44 20 rfl) rfl rfl ci1 (Nat.le_of_ble_eq_true rfl) rfl).trans ?_
      refine (r_goto (L' := [.ref 22, .int (l1 + 1), .int (l2 + 1)]) (dk D44 21 rfl) rfl nd44_4 rfl).trans ?_
      exact rfl
  · refine (r_iln (dk D44 22 rfl) rfl).trans ?_
    exact r_ret (dk D44 23 rfl) rt44
set_option maxRecDepth 20000 in
theorem D45 : dOK 45 [(0, .iconst 0, 1), (1, .istore_n 1, 1), (2, .iconst 0, 1), (3, .istore_n 2, 1), (4, .iload_n 2, 1), (5, .aload_n 0, 1), (6, .getfield 9, 3), (9, .getfield 64, 3), (12, .if_icmp .ge 22, 3), (15, .aload_n 0, 1), (16, .getfield 23, 3), (19, .iload_n 2, 1), (20, .iaload, 1), (21, .iconst (-1), 1), (22, .if_icmp .ne 6, 3), (25, .iinc 1 1, 3), (28, .iinc 2 1, 3), (31, .goto (-27), 3), (34, .iload_n 1, 1), (35, .ireturn, 1)] = true := by decide +kernel
theorem E45_0 {d sl : Nat} {p : Nat → Nat} {I : Nat → Nat → Int32} {J : Nat → Nat → Int64}   : den d 45 [.ref 22] (S sl p I J) = ev d 45 4 [.ref 22, .int 0, .int 0] [] (S sl p I J) := by
  refine (show den d 45 [.ref 22] (S sl p I J) = ev d 45 0 [.ref 22, .retAddr 0, .retAddr 0] [] (S sl p I J) from rfl).trans ?_
  refine (r_ic (dk D45 0 rfl) ci0).trans ?_
  refine (r_isn (L' := [.ref 22, .int 0, .retAddr 0]) (dk D45 1 rfl) (Nat.le_of_ble_eq_true rfl) rfl).trans ?_
  refine (r_ic (dk D45 2 rfl) ci0).trans ?_
  refine (r_isn (L' := [.ref 22, .int 0, .int 0]) (dk D45 3 rfl) (Nat.le_of_ble_eq_true rfl) rfl).trans ?_
  exact rfl
theorem E45_4 {d sl : Nat} {p : Nat → Nat} {I : Nat → Nat → Int32} {J : Nat → Nat → Int64} (l1 : Int32) (l2 : Int32)  : ev d 45 4 [.ref 22, .int l1, .int l2] [] (S sl p I J) = (if l2 < (I 4 8) then ck (ixb 60 l2) ((if (I 23 (Int32.toNatClampNeg l2)) = (-1) then ev d 45 4 [.ref 22, .int (l1 + 1), .int (l2 + 1)] [] (S sl p I J) else ev d 45 4 [.ref 22, .int l1, .int (l2 + 1)] [] (S sl p I J))) else some (some (.int l1), (S sl p I J))) := by
  refine (r_iln (dk D45 4 rfl) rfl).trans ?_
  refine (r_aln (dk D45 5 rfl) rfl).trans ?_
  refine (r_getR (dk D45 6 rfl) ow45 q6_9 ob_22 rfl).trans ?_
  refine (r_getI (dk D45 7 rfl) ow45 q6_64 ob_4).trans ?_
  refine (r_ge (dk D45 8 rfl) rfl).trans (ite2 ?_ ?_)
  · refine (r_aln (dk D45 9 rfl) rfl).trans ?_
    refine (r_getR (dk D45 10 rfl) ow45 q6_23 ob_22 rfl).trans ?_
    refine (r_iln (dk D45 11 rfl) rfl).trans ?_
    refine (r_ild (dk D45 12 rfl) ar_23).trans (ck3 fun g1 => ?_)
    refine (r_ic (dk D45 13 rfl) cim1).trans ?_
    refine (r_ne (dk D45 14 rfl) rfl).trans (ite2 ?_ ?_)
    · refine (r_inc (L' := [.ref 22, .int (l1 + 1), .int l2]) (dk D45 15 rfl) rfl rfl ci1 (Nat.le_of_ble_eq_true rfl) rfl).trans ?_
      refine (r_inc (L' := [.ref 22, .int (l1 + 1), .int (l2 + 1)]) (dk D45 16 rfl) rfl rfl ci1 (Nat.le_of_ble_eq_true rfl) rfl).trans ?_
      refine (r_goto (L' := [.ref 22, .int (l1 + 1), .int (l2 + 1)]) (dk D45 17 rfl) rfl nd45_4 rfl).trans ?_
      exact rfl
    · refine (r_inc (L' := [.ref 22, .int l1, .int (l2 + 1)]) (dk D45 16 rfl) rfl rfl ci1 (Nat.le_of_ble_eq_true rfl) rfl).trans ?_
      refine (r_goto (L' := [.ref 22, .int l1, .int (l2 + 1)]) (dk D45 17 rfl) rfl nd45_4 rfl).trans ?_
      exact rfl
  · refine (r_iln (dk D45 18 rfl) rfl).trans ?_
    exact r_ret (dk D45 19 rfl) rt45
