set_option maxRecDepth 20000 in
theorem D47 : dOK 47 [(0, .aload_n 0, 1), (1, .iload_n 1, 1), (2, .putfield 33, 3), (5, .aload_n 0, 1), (6, .iload_n 2, 1), (7, .putfield 37, 3), (10, .aload_n 0, 1), (11, .iload_n 3, 1), (12, .putfield 40, 3), (15, .aload_n 0, 1), (16, .iload 4, 2), (18, .putfield 43, 3), (21, .return_, 1)] = true := by decide +kernel
theorem E47_0 {d sl : Nat} {p : Nat → Nat} {I : Nat → Nat → Int32} {J : Nat → Nat → Int64} (a1 : Int32) (a2 : Int32) (a3 : Int32) (a4 : Int32)  : den d 47 [.ref 34, .int a1, .int a2, .int a3, .int a4] (S sl p I J) = some (none, (S sl p (up2 (up2 (up2 (up2 I 34 5 a1) 34 6 a2) 34 7 a3) 34 8 a4) J)) := by
  refine (show den d 47 [.ref 34, .int a1, .int a2, .int a3, .int a4] (S sl p I J) = ev d 47 0 [.ref 34, .int a1, .int a2, .int a3, .int a4] [] (S sl p I J) from rfl).trans ?_
  refine (r_aln (dk D47 0 rfl) rfl).trans ?_
  refine (r_iln (dk D47 1 rfl) rfl).trans ?_
  refine (r_putI (dk D47 2 rfl) ow47 w7_33 ob_34).trans ?_
  refine (r_aln (dk D47 3 rfl) rfl).trans ?_
  refine (r_iln (dk D47 4 rfl) rfl).trans ?_
  refine (r_putI (dk D47 5 rfl) ow47 w7_37 ob_34).trans ?_
  refine (r_aln (dk D47 6 rfl) rfl).trans ?_
  refine (r_iln (dk D47 7 rfl) rfl).trans ?_
  refine (r_putI (dk D47 8 rfl) ow47 w7_40 ob_34).trans ?_
  refine (r_aln (dk D47 9 rfl) rfl).trans ?_
  refine (r_il (dk D47 10 rfl) rfl).trans ?_
  refine (r_putI (dk D47 11 rfl) ow47 w7_43 ob_34).trans ?_
  exact r_rev (dk D47 12 rfl) rt47
set_option maxRecDepth 20000 in
theorem D48 : dOK 48 [(0, .iload_n 0, 1), (1, .iload_n 1, 1), (2, .isub, 1), (3, .sipush 360, 3), (6, .invokestatic 49, 3), (9, .istore_n 2, 1), (10, .iload_n 2, 1), (11, .sipush 360, 3), (14, .iload_n 2, 1), (15, .isub, 1), (16, .invokestatic 55, 3), (19, .ireturn, 1)] = true := by decide +kernel
theorem E48_0 {d sl : Nat} {p : Nat → Nat} {I : Nat → Nat → Int32} {J : Nat → Nat → Int64} (a0 : Int32) (a1 : Int32)  : den (d + 1) 48 [.int a0, .int a1] (S sl p I J) = some (some (.int (if (360 - (fmod (a0 - a1))) < (fmod (a0 - a1)) then (360 - (fmod (a0 - a1))) else (fmod (a0 - a1)))), (S sl p I J)) := by
  refine (show den (d + 1) 48 [.int a0, .int a1] (S sl p I J) = ev (d + 1) 48 0 [.int a0, .int a1, .retAddr 0] [] (S sl p I J) from rfl).trans ?_
  refine (r_iln (dk D48 0 rfl) rfl).trans ?_
  refine (r_iln (dk D48 1 rfl) rfl).trans ?_
  refine (r_isub (dk D48 2 rfl)).trans ?_
  refine (r_sp (dk D48 3 rfl) cs360).trans ?_
  refine (r_prm (st' := [.int (fmod (a0 - a1))]) (dk D48 4 rfl) ow48 p7_49 (Nat.le_of_ble_eq_true rfl) rfl).trans ?_
  refine (r_isn (L' := [.int a0, .int a1, .int (fmod (a0 - a1))]) (dk D48 5 rfl) (Nat.le_of_ble_eq_true rfl) rfl).trans ?_
  refine (r_iln (dk D48 6 rfl) rfl).trans ?_
  refine (r_sp (dk D48 7 rfl) cs360).trans ?_
  refine (r_iln (dk D48 8 rfl) rfl).trans ?_
  refine (r_isub (dk D48 9 rfl)).trans ?_
  refine (r_prm (st' := [.int (if (360 - (fmod (a0 - a1))) < (fmod (a0 - a1)) then (360 - (fmod (a0 - a1))) else (fmod (a0 - a1)))]) (dk D48 10 rfl) ow48 p7_55 (Nat.le_of_ble_eq_true rfl) rfl).trans ?_
  exact r_ret (dk D48 11 rfl) rt48
set_option maxRecDepth 20000 in
theorem D49 : dOK 49 [(0, .iconst 0, 1), (1, .istore_n 3, 1), (2, .iconst 0, 1), (3, .istore 4, 2), (5, .iload 4, 2), (7, .aload_n 0, 1), (8, .getfield 9, 3), (11, .getfield 58, 3), (14, .if_icmp .ge 77, 3), (17, .aload_n 0, 1), (18, .getfield 9, 3), (21, .getfield 63, 3), (24, .iload 4, 2), (26, .aaload, 1), (27, .astore 5, 2), (29, .aload 5, 2), (31, .getfield 67, 3), (34, .aload_n 0, 1), (35, .getfield 40, 3), (38, .if_icmp .le 16, 3), (41, .aload 5, 2), (43, .getfield 67, 3), (46, .iload_n 2, 1), (47, .if_icmp .ge 7, 3), (50, .iconst 1, 1), (51, .goto 4, 3), (54, .iconst 0, 1), (55, .istore 6, 2), (57, .iload 6, 2), (59, .ifCond .eq 26, 3), (62, .aload 5, 2), (64, .getfield 72, 3), (67, .iload_n 1, 1), (68, .invokestatic 75, 3), (71, .aload_n 0, 1), (72, .getfield 43, 3), (75, .if_icmp .gt 10, 3), (78, .iload_n 3, 1), (79, .iconst 1, 1), (80, .iload 4, 2), (82, .ishl, 1), (83, .ior, 1), (84, .istore_n 3, 1), (85, .iinc 4 1, 3), (88, .goto (-83), 3), (91, .iload_n 3, 1), (92, .ireturn, 1)] = true := by decide +kernel
theorem E49_0 {d sl : Nat} {p : Nat → Nat} {I : Nat → Nat → Int32} {J : Nat → Nat → Int64} (a1 : Int32) (a2 : Int32)  : den d 49 [.ref 34, .int a1, .int a2] (S sl p I J) = ev d 49 5 [.ref 34, .int a1, .int a2, .int 0, .int 0, .retAddr 0, .retAddr 0] [] (S sl p I J) := by
  refine (show den d 49 [.ref 34, .int a1, .int a2] (S sl p I J) = ev d 49 0 [.ref 34, .int a1, .int a2, .retAddr 0, .retAddr 0, .retAddr 0, .retAddr 0] [] (S sl p I J) from rfl).trans ?_
  refine (r_ic (dk D49 0 rfl) ci0).trans ?_
  refine (r_isn (L' := [.ref 34, .int a1, .int a2, .int 0, .retAddr 0, .retAddr 0, .retAddr 0]) (dk D49 1 rfl) (Nat.le_of_ble_eq_true rfl) rfl).trans ?_
  refine (r_ic (dk D49 2 rfl) ci0).trans ?_
  refine (r_is (L' := [.ref 34, .int a1, .int a2, .int 0, .int 0, .retAddr 0, .retAddr 0]) (dk D49 3 rfl) (Nat.le_of_ble_eq_true rfl) rfl).trans ?_
  exact rfl
theorem E49_5 {d sl : Nat} {p : Nat → Nat} {I : Nat → Nat → Int32} {J : Nat → Nat → Int64} (l1 : Int32) (l2 : Int32) (l3 : Int32) (l4 : Int32)  : ev d 49 5 [.ref 34, .int l1, .int l2, .int l3, .int l4, .retAddr 0, .retAddr 0] [] (S sl p I J) = (if l4 < (I 11 14) then ck (ixb 30 l4) ((if (I (400 + (Int32.toNatClampNeg l4)) 8) ≤ (I 34 7) then ev d 49 54 [.ref 34, .int l1, .int l2, .int l3, .int l4, .ref (400 + (Int32.toNatClampNeg l4)), .retAddr 0] [] (S sl p I J) else (if (I (400 + (Int32.toNatClampNeg l4)) 8) < l2 then ev d 49 55 [.ref 34, .int l1, .int l2, .int l3, .int l4, .ref (400 + (Int32.toNatClampNeg l4)), .retAddr 0] [.int 1] (S sl p I J) else ev d 49 54 [.ref 34, .int l1, .int l2, .int l3, .int l4, .ref (400 + (Int32.toNatClampNeg l4)), .retAddr 0] [] (S sl p I J)))) else some (some (.int l3), (S sl p I J))) := by
  refine (r_il (dk D49 4 rfl) rfl).trans ?_
  refine (r_aln (dk D49 5 rfl) rfl).trans ?_
  refine (r_getR (dk D49 6 rfl) ow49 q7_9 ob_34 rfl).trans ?_
  refine (r_getI (dk D49 7 rfl) ow49 q7_58 ob_11).trans ?_
  refine (r_ge (dk D49 8 rfl) rfl).trans (ite2 ?_ ?_)
  · refine (r_aln (dk D49 9 rfl) rfl).trans ?_
    refine (r_getR (dk D49 10 rfl) ow49 q7_9 ob_34 rfl).trans ?_
    refine (r_getR (dk D49 11 rfl) ow49 q7_63 ob_11 rfl).trans ?_
    refine (r_il (dk D49 12 rfl) rfl).trans ?_
    refine (r_ald (dk D49 13 rfl) ar_13 (by decide) rfA13).trans (ck3 fun g1 => ?_)
    refine (r_as (L' := [.ref 34, .int l1, .int l2, .int l3, .int l4, .ref (400 + (Int32.toNatClampNeg l4)), .retAddr 0]) (dk D49 14 rfl) (Nat.le_of_ble_eq_true rfl) rfl).trans ?_
    refine (r_al (dk D49 15 rfl) rfl).trans ?_
    refine (r_getI (dk D49 16 rfl) ow49 q7_67 (obG (ixb_lt g1))).trans ?_
    refine (r_aln (dk D49 17 rfl) rfl).trans ?_
    refine (r_getI (dk D49 18 rfl) ow49 q7_40 ob_34).trans ?_
    refine (r_le (dk D49 19 rfl) rfl).trans (ite2 ?_ ?_)
    · exact rfl
    · refine (r_al (dk D49 20 rfl) rfl).trans ?_
      refine (r_getI (dk D49 21 rfl) ow49 q7_67 (obG (ixb_lt g1))).trans ?_
      refine (r_iln (dk D49 22 rfl) rfl).trans ?_
      refine (r_ge (dk D49 23 rfl) rfl).trans (ite2 ?_ ?_)
      · refine (r_ic (dk D49 24 rfl) ci1).trans ?_
        refine (r_goto (L' := [.ref 34, .int l1, .int l2, .int l3, .int l4, .ref (400 + (Int32.toNatClampNeg l4)), .retAddr 0]) (dk D49 25 rfl) rfl nd49_55 rfl).trans ?_
        exact rfl
      · exact rfl
  · refine (r_iln (dk D49 45 rfl) rfl).trans ?_
    exact r_ret (dk D49 46 rfl) rt49
theorem E49_54 {d sl : Nat} {p : Nat → Nat} {I : Nat → Nat → Int32} {J : Nat → Nat → Int64} (l1 : Int32) (l2 : Int32) (l3 : Int32) (l4 : Int32) {l5 : Nat} (hl5 : l5 < 30) : ev d 49 54 [.ref 34, .int l1, .int l2, .int l3, .int l4, .ref (400 + l5), .retAddr 0] [] (S sl p I J) = ev d 49 55 [.ref 34, .int l1, .int l2, .int l3, .int l4, .ref (400 + l5), .retAddr 0] [.int 0] (S sl p I J) := by
  refine (r_ic (dk D49 26 rfl) ci0).trans ?_
  exact rfl
theorem E49_55 {d sl : Nat} {p : Nat → Nat} {I : Nat → Nat → Int32} {J : Nat → Nat → Int64} (l1 : Int32) (l2 : Int32) (l3 : Int32) (l4 : Int32) {l5 : Nat} (s0 : Int32) (hl5 : l5 < 30) : ev (d + 1) 49 55 [.ref 34, .int l1, .int l2, .int l3, .int l4, .ref (400 + l5), .retAddr 0] [.int s0] (S sl p I J) = (if s0 = 0 then ev (d + 1) 49 5 [.ref 34, .int l1, .int l2, .int l3, .int (l4 + 1), .retAddr 0, .retAddr 0] [] (S sl p I J) else evK (d + 1) 49 71 [.ref 34, .int l1, .int l2, .int l3, .int l4, .ref (400 + l5), .int s0] [] (den d 48 [.int (I (400 + l5) 7), .int l1] (S sl p I J))) := by
  refine (r_is (L' := [.ref 34, .int l1, .int l2, .int l3, .int l4, .ref (400 + l5), .int s0]) (dk D49 27 rfl) (Nat.le_of_ble_eq_true rfl) rfl).trans ?_
  refine (r_il (dk D49 28 rfl) rfl).trans ?_
  refine (r_eq0 (dk D49 29 rfl) rfl).trans (ite2 ?_ ?_)
  · refine (r_inc (L' := [.ref 34, .int l1, .int l2, .int l3, .int (l4 + 1), .ref (400 + l5), .int s0]) (dk D49 43 rfl) rfl rfl ci1 (Nat.le_of_ble_eq_true rfl) rfl).trans ?_
    refine (r_goto (L' := [.ref 34, .int l1, .int l2, .int l3, .int (l4 + 1), .retAddr 0, .retAddr 0]) (dk D49 44 rfl) rfl nd49_5 rfl).trans ?_
    exact rfl
  · refine (r_al (dk D49 30 rfl) rfl).trans ?_
    refine (r_getI (dk D49 31 rfl) ow49 q7_72 (obG hl5)).trans ?_
    refine (r_iln (dk D49 32 rfl) rfl).trans ?_
    exact r_cs (dk D49 33 rfl) ow49 pn7_75 c7_75 mf48 (Nat.le_of_ble_eq_true rfl) rfl rfl (Nat.le_of_ble_eq_true rfl) (Nat.le_of_ble_eq_true rfl)
theorem E49_71 {d sl : Nat} {p : Nat → Nat} {I : Nat → Nat → Int32} {J : Nat → Nat → Int64} (l1 : Int32) (l2 : Int32) (l3 : Int32) (l4 : Int32) {l5 : Nat} (l6 : Int32) (s0 : Int32) (hl5 : l5 < 30) : ev d 49 71 [.ref 34, .int l1, .int l2, .int l3, .int l4, .ref (400 + l5), .int l6] [.int s0] (S sl p I J) = (if s0 ≤ (I 34 8) then ev d 49 5 [.ref 34, .int l1, .int l2, .int (l3 ||| (1 <<< (l4 &&& 31))), .int (l4 + 1), .retAddr 0, .retAddr 0] [] (S sl p I J) else ev d 49 5 [.ref 34, .int l1, .int l2, .int l3, .int (l4 + 1), .retAddr 0, .retAddr 0] [] (S sl p I J)) := by
  refine (r_aln (dk D49 34 rfl) rfl).trans ?_
  refine (r_getI (dk D49 35 rfl) ow49 q7_43 ob_34).trans ?_
  refine (r_gt (dk D49 36 rfl) rfl).trans (ite2 ?_ ?_)
  · refine (r_iln (dk D49 37 rfl) rfl).trans ?_
    refine (r_ic (dk D49 38 rfl) ci1).trans ?_
    refine (r_il (dk D49 39 rfl) rfl).trans ?_
    refine (r_ishl (dk D49 40 rfl)).trans ?_
    refine (r_ior (dk D49 41 rfl)).trans ?_
    refine (r_isn (L' := [.ref 34, .int l1, .int l2, .int (l3 ||| (1 <<< (l4 &&& 31))), .int l4, .ref (400 + l5), .int l6]) (dk D49 42 rfl) (Nat.le_of_ble_eq_true rfl) rfl).trans ?_
    refine (r_inc (L' := [.ref 34, .int l1, .int l2, .int (l3 ||| (1 <<< (l4 &&& 31))), .int (l4 + 1), .ref (400 + l5), .int l6]) (dk D49 43 rfl) rfl rfl ci1 (Nat.le_of_ble_eq_true rfl) rfl).trans ?_
    refine (r_goto (L' := [.ref 34, .int l1, .int l2, .int (l3 ||| (1 <<< (l4 &&& 31))), .int (l4 + 1), .retAddr 0, .retAddr 0]) (dk D49 44 rfl) rfl nd49_5 rfl).trans ?_
    exact rfl
  · refine (r_inc (L' := [.ref 34, .int l1, .int l2, .int l3, .int (l4 + 1), .ref (400 + l5), .int l6]) (dk D49 43 rfl) rfl rfl ci1 (Nat.le_of_ble_eq_true rfl) rfl).trans ?_
    refine (r_goto (L' := [.ref 34, .int l1, .int l2, .int l3, .int (l4 + 1), .retAddr 0, .retAddr 0]) (dk D49 44 rfl) rfl nd49_5 rfl).trans ?_
    exact rfl
set_option maxRecDepth 20000 in
theorem D50 : dOK 50 [(0, .iconst 0, 1), (1, .istore_n 3, 1), (2, .iconst 0, 1), (3, .istore 4, 2), (5, .iload 4, 2), (7, .aload_n 0, 1), (8, .getfield 9, 3), (11, .getfield 58, 3), (14, .if_icmp .ge 77, 3), (17, .aload_n 0, 1), (18, .getfield 9, 3), (21, .getfield 63, 3), (24, .iload 4, 2), (26, .aaload, 1), (27, .astore 5, 2), (29, .iload_n 2, 1), (30, .aload_n 0, 1), (31, .getfield 40, 3), (34, .isub, 1), (35, .bipush 90, 2), (37, .aload 5, 2), (39, .getfield 67, 3), (42, .isub, 1), (43, .if_icmp .lt 7, 3), (46, .iconst 1, 1), (47, .goto 4, 3), (50, .iconst 0, 1), (51, .istore 6, 2), (53, .iload 6, 2), (55, .ifCond .eq 30, 3), (58, .aload 5, 2), (60, .getfield 72, 3), (63, .iload_n 1, 1), (64, .sipush 180, 3), (67, .iadd, 1), (68, .invokestatic 75, 3), (71, .aload_n 0, 1), (72, .getfield 43, 3), (75, .if_icmp .gt 10, 3), (78, .iload_n 3, 1), (79, .iconst 1, 1), (80, .iload 4, 2), (82, .ishl, 1), (83, .ior, 1), (84, .istore_n 3, 1), (85, .iinc 4 1, 3), (88, .goto (-83), 3), (91, .iload_n 3, 1), (92, .ireturn, 1)] = true := by decide +kernel
theorem E50_0 {d sl : Nat} {p : Nat → Nat} {I : Nat → Nat → Int32} {J : Nat → Nat → Int64} (a1 : Int32) (a2 : Int32)  : den d 50 [.ref 34, .int a1, .int a2] (S sl p I J) = ev d 50 5 [.ref 34, .int a1, .int a2, .int 0, .int 0, .retAddr 0, .retAddr 0] [] (S sl p I J) := by
  refine (show den d 50 [.ref 34, .int a1, .int a2] (S sl p I J) = ev d 50 0 [.ref 34, .int a1, .int a2, .retAddr 0, .retAddr 0, .retAddr 0, .retAddr 0] [] (S sl p I J) from rfl).trans ?_
  refine (r_ic (dk D50 0 rfl) ci0).trans ?_
  refine (r_isn (L' := [.ref 34, .int a1, .int a2, .int 0, .retAddr 0, .retAddr 0, .retAddr 0]) (dk D50 1 rfl) (Nat.le_of_ble_eq_true rfl) rfl).trans ?_
  refine (r_ic (dk D50 2 rfl) ci0).trans ?_
  refine (r_is (L' := [.ref 34, .int a1, .int a2, .int 0, .int 0, .retAddr 0, .retAddr 0]) (dk D50 3 rfl) (Nat.le_of_ble_eq_true rfl) rfl).trans ?_
  exact rfl
theorem E50_5 {d sl : Nat} {p : Nat → Nat} {I : Nat → Nat → Int32} {J : Nat → Nat → Int64} (l1 : Int32) (l2 : Int32) (l3 : Int32) (l4 : Int32)  : ev d 50 5 [.ref 34, .int l1, .int l2, .int l3, .int l4, .retAddr 0, .retAddr 0] [] (S sl p I J) = (if l4 < (I 11 14) then ck (ixb 30 l4) ((if (l2 - (I 34 7)) < (90 - (I (400 + (Int32.toNatClampNeg l4)) 8)) then ev d 50 51 [.ref 34, .int l1, .int l2, .int l3, .int l4, .ref (400 + (Int32.toNatClampNeg l4)), .retAddr 0] [.int 0] (S sl p I J) else ev d 50 51 [.ref 34, .int l1, .int l2, .int l3, .int l4, .ref (400 + (Int32.toNatClampNeg l4)), .retAddr 0] [.int 1] (S sl p I J))) else some (some (.int l3), (S sl p I J))) := by
  refine (r_il (dk D50 4 rfl) rfl).trans ?_
  refine (r_aln (dk D50 5 rfl) rfl).trans ?_
  refine (r_getR (dk D50 6 rfl) ow50 q7_9 ob_34 rfl).trans ?_
  refine (r_getI (dk D50 7 rfl) ow50 q7_58 ob_11).trans ?_
  refine (r_ge (dk D50 8 rfl) rfl).trans (ite2 ?_ ?_)
  · refine (r_aln (dk D50 9 rfl) rfl).trans ?_
    refine (r_getR (dk D50 10 rfl) ow50 q7_9 ob_34 rfl).trans ?_
    refine (r_getR (dk D50 11 rfl) ow50 q7_63 ob_11 rfl).trans ?_
    refine (r_il (dk D50 12 rfl) rfl).trans ?_
    refine (r_ald (dk D50 13 rfl) ar_13 (by decide) rfA13).trans (ck3 fun g1 => ?_)
    refine (r_as (L' := [.ref 34, .int l1, .int l2, .int l3, .int l4, .ref (400 + (Int32.toNatClampNeg l4)), .retAddr 0]) (dk D50 14 rfl) (Nat.le_of_ble_eq_true rfl) rfl).trans ?_
    refine (r_iln (dk D50 15 rfl) rfl).trans ?_
    refine (r_aln (dk D50 16 rfl) rfl).trans ?_
    refine (r_getI (dk D50 17 rfl) ow50 q7_40 ob_34).trans ?_
    refine (r_isub (dk D50 18 rfl)).trans ?_
    refine (r_bp (dk D50 19 rfl) cb90).trans ?_
    refine (r_al (dk D50 20 rfl) rfl).trans ?_
    refine (r_getI (dk D50 21 rfl) ow50 q7_67 (obG (ixb_lt g1))).trans ?_
    refine (r_isub (dk D50 22 rfl)).trans ?_
    refine (r_lt (dk D50 23 rfl) rfl).trans (ite2 ?_ ?_)
    · refine (r_ic (dk D50 26 rfl) ci0).trans ?_
      exact rfl
    · refine (r_ic (dk D50 24 rfl) ci1).trans ?_
      refine (r_goto (L' := [.ref 34, .int l1, .int l2, .int l3, .int l4, .ref (400 + (Int32.toNatClampNeg l4)), .retAddr 0]) (dk D50 25 rfl) rfl nd50_51 rfl).trans ?_
      exact rfl
  · refine (r_iln (dk D50 47 rfl) rfl).trans ?_
    exact r_ret (dk D50 48 rfl) rt50
theorem E50_51 {d sl : Nat} {p : Nat → Nat} {I : Nat → Nat → Int32} {J : Nat → Nat → Int64} (l1 : Int32) (l2 : Int32) (l3 : Int32) (l4 : Int32) {l5 : Nat} (s0 : Int32) (hl5 : l5 < 30) : ev (d + 1) 50 51 [.ref 34, .int l1, .int l2, .int l3, .int l4, .ref (400 + l5), .retAddr 0] [.int s0] (S sl p I J) = (if s0 = 0 then ev (d + 1) 50 5 [.ref 34, .int l1, .int l2, .int l3, .int (l4 + 1), .retAddr 0, .retAddr 0] [] (S sl p I J) else evK (d + 1) 50 71 [.ref 34, .int l1, .int l2, .int l3, .int l4, .ref (400 + l5), .int s0] [] (den d 48 [.int (I (400 + l5) 7), .int (l1 + 180)] (S sl p I J))) := by
  refine (r_is (L' := [.ref 34, .int l1, .int l2, .int l3, .int l4, .ref (400 + l5), .int s0]) (dk D50 27 rfl) (Nat.le_of_ble_eq_true rfl) rfl).trans ?_
  refine (r_il (dk D50 28 rfl) rfl).trans ?_
  refine (r_eq0 (dk D50 29 rfl) rfl).trans (ite2 ?_ ?_)
  · refine (r_inc (L' := [.ref 34, .int l1, .int l2, .int l3, .int (l4 + 1), .ref (400 + l5), .int s0]) (dk D50 45 rfl) rfl rfl ci1 (Nat.le_of_ble_eq_true rfl) rfl).trans ?_
    refine (r_goto (L' := [.ref 34, .int l1, .int l2, .int l3, .int (l4 + 1), .retAddr 0, .retAddr 0]) (dk D50 46 rfl) rfl nd50_5 rfl).trans ?_
    exact rfl
  · refine (r_al (dk D50 30 rfl) rfl).trans ?_
    refine (r_getI (dk D50 31 rfl) ow50 q7_72 (obG hl5)).trans ?_
    refine (r_iln (dk D50 32 rfl) rfl).trans ?_
    refine (r_sp (dk D50 33 rfl) cs180).trans ?_
    refine (r_iadd (dk D50 34 rfl)).trans ?_
    exact r_cs (dk D50 35 rfl) ow50 pn7_75 c7_75 mf48 (Nat.le_of_ble_eq_true rfl) rfl rfl (Nat.le_of_ble_eq_true rfl) (Nat.le_of_ble_eq_true rfl)
theorem E50_71 {d sl : Nat} {p : Nat → Nat} {I : Nat → Nat → Int32} {J : Nat → Nat → Int64} (l1 : Int32) (l2 : Int32) (l3 : Int32) (l4 : Int32) {l5 : Nat} (l6 : Int32) (s0 : Int32) (hl5 : l5 < 30) : ev d 50 71 [.ref 34, .int l1, .int l2, .int l3, .int l4, .ref (400 + l5), .int l6] [.int s0] (S sl p I J) = (if s0 ≤ (I 34 8) then ev d 50 5 [.ref 34, .int l1, .int l2, .int (l3 ||| (1 <<< (l4 &&& 31))), .int (l4 + 1), .retAddr 0, .retAddr 0] [] (S sl p I J) else ev d 50 5 [.ref 34, .int l1, .int l2, .int l3, .int (l4 + 1), .retAddr 0, .retAddr 0] [] (S sl p I J)) := by
  refine (r_aln (dk D50 36 rfl) rfl).trans ?_
  refine (r_getI (dk D50 37 rfl) ow50 q7_43 ob_34).trans ?_
  refine (r_gt (dk D50 38 rfl) rfl).trans (ite2 ?_ ?_)
  · refine (r_iln (dk D50 39 rfl) rfl).trans ?_
    refine (r_ic (dk D50 40 rfl) ci1).trans ?_
    refine (r_il (dk D50 41 rfl) rfl).trans ?_
    refine (r_ishl (dk D50 42 rfl)).trans ?_
    refine (r_ior (dk D50 43 rfl)).trans ?_
    refine (r_isn (L' := [.ref 34, .int l1, .int l2, .int (l3 ||| (1 <<< (l4 &&& 31))), .int l4, .ref (400 + l5), .int l6]) (dk D50 44 rfl) (Nat.le_of_ble_eq_true rfl) rfl).trans ?_
    refine (r_inc (L' := [.ref 34, .int l1, .int l2, .int (l3 ||| (1 <<< (l4 &&& 31))), .int (l4 + 1), .ref (400 + l5), .int l6]) (dk D50 45 rfl) rfl rfl ci1 (Nat.le_of_ble_eq_true rfl) rfl).trans ?_
    refine (r_goto (L' := [.ref 34, .int l1, .int l2, .int (l3 ||| (1 <<< (l4 &&& 31))), .int (l4 + 1), .retAddr 0, .retAddr 0]) (dk D50 46 rfl) rfl nd50_5 rfl).trans ?_
    exact rfl
  · refine (r_inc (L' := [.ref 34, .int l1, .int l2, .int l3, .int (l4 + 1), .ref (400 + l5), .int l6]) (dk D50 45 rfl) rfl rfl ci1 (Nat.le_of_ble_eq_true rfl) rfl).trans ?_
    refine (r_goto (L' := [.ref 34, .int l1, .int l2, .int l3, .int (l4 + 1), .retAddr 0, .retAddr 0]) (dk D50 46 rfl) rfl nd50_5 rfl).trans ?_
    exact rfl
set_option maxRecDepth 20000 in
theorem D51 : dOK 51 [(0, .aload_n 3, 1), (1, .aload_n 0, 1), (2, .getfield 9, 3), (5, .getfield 78, 3), (8, .iload_n 1, 1), (9, .aaload, 1), (10, .aload_n 0, 1), (11, .getfield 9, 3), (14, .getfield 78, 3), (17, .iload_n 2, 1), (18, .aaload, 1), (19, .invokevirtual 82, 3), (22, .aload_n 3, 1), (23, .invokevirtual 86, 3), (26, .aload_n 3, 1), (27, .invokevirtual 89, 3), (30, .ifCond .ne 7, 3), (33, .iconst 1, 1), (34, .goto 4, 3), (37, .iconst 0, 1), (38, .ireturn, 1)] = true := by decide +kernel
theorem E51_0 {d sl : Nat} {p : Nat → Nat} {I : Nat → Nat → Int32} {J : Nat → Nat → Int64} (a1 : Int32) (a2 : Int32) {a3 : Nat} (h3 : ob a3 0) : den (d + 1) 51 [.ref 34, .int a1, .int a2, .ref a3] (S sl p I J) = ck (ixb 30 a1) (ck (ixb 30 a2) (evK (d + 1) 51 22 [.ref 34, .int a1, .int a2, .ref a3] [] (den d 7 [.ref a3, .ref (800 + (Int32.toNatClampNeg a1)), .ref (800 + (Int32.toNatClampNeg a2))] (S sl p I J)))) := by
  refine (show den (d + 1) 51 [.ref 34, .int a1, .int a2, .ref a3] (S sl p I J) = ev (d + 1) 51 0 [.ref 34, .int a1, .int a2, .ref a3] [] (S sl p I J) from rfl).trans ?_
  refine (r_aln (dk D51 0 rfl) rfl).trans ?_
  refine (r_aln (dk D51 1 rfl) rfl).trans ?_
  refine (r_getR (dk D51 2 rfl) ow51 q7_9 ob_34 rfl).trans ?_
  refine (r_getR (dk D51 3 rfl) ow51 q7_78 ob_11 rfl).trans ?_
  refine (r_iln (dk D51 4 rfl) rfl).trans ?_
  refine (r_ald (dk D51 5 rfl) ar_14 (by decide) rfA14).trans (ck3 fun g1 => ?_)
  refine (r_aln (dk D51 6 rfl) rfl).trans ?_
  refine (r_getR (dk D51 7 rfl) ow51 q7_9 ob_34 rfl).trans ?_
  refine (r_getR (dk D51 8 rfl) ow51 q7_78 ob_11 rfl).trans ?_
  refine (r_iln (dk D51 9 rfl) rfl).trans ?_
  refine (r_ald (dk D51 10 rfl) ar_14 (by decide) rfA14).trans (ck3 fun g2 => ?_)
  exact r_cv (dk D51 11 rfl) ow51 c7_82 mf7 (Nat.le_of_ble_eq_true rfl) rfl rfl (Nat.le_of_ble_eq_true rfl) (Nat.le_of_ble_eq_true rfl) h3
theorem E51_22 {d sl : Nat} {p : Nat → Nat} {I : Nat → Nat → Int32} {J : Nat → Nat → Int64} (l1 : Int32) (l2 : Int32) {l3 : Nat} (hl3 : ob l3 0) : ev (d + 1) 51 22 [.ref 34, .int l1, .int l2, .ref l3] [] (S sl p I J) = evK (d + 1) 51 26 [.ref 34, .int l1, .int l2, .ref l3] [] (den d 8 [.ref l3] (S sl p I J)) := by
  refine (r_aln (dk D51 12 rfl) rfl).trans ?_
  exact r_cv (dk D51 13 rfl) ow51 c7_86 mf8 (Nat.le_of_ble_eq_true rfl) rfl rfl (Nat.le_of_ble_eq_true rfl) (Nat.le_of_ble_eq_true rfl) hl3
theorem E51_26 {d sl : Nat} {p : Nat → Nat} {I : Nat → Nat → Int32} {J : Nat → Nat → Int64} (l1 : Int32) (l2 : Int32) {l3 : Nat} (hl3 : ob l3 0) : ev (d + 1) 51 26 [.ref 34, .int l1, .int l2, .ref l3] [] (S sl p I J) = evK (d + 1) 51 30 [.ref 34, .int l1, .int l2, .ref l3] [] (den d 6 [.ref l3] (S sl p I J)) := by
  refine (r_aln (dk D51 14 rfl) rfl).trans ?_
  exact r_cv (dk D51 15 rfl) ow51 c7_89 mf6 (Nat.le_of_ble_eq_true rfl) rfl rfl (Nat.le_of_ble_eq_true rfl) (Nat.le_of_ble_eq_true rfl) hl3
theorem E51_30 {d sl : Nat} {p : Nat → Nat} {I : Nat → Nat → Int32} {J : Nat → Nat → Int64} (l1 : Int32) (l2 : Int32) {l3 : Nat} (s0 : Int32) (hl3 : ob l3 0) : ev d 51 30 [.ref 34, .int l1, .int l2, .ref l3] [.int s0] (S sl p I J) = (if s0 = 0 then some (some (.int 1), (S sl p I J)) else some (some (.int 0), (S sl p I J))) := by
  refine (r_ne0 (dk D51 16 rfl) rfl).trans (ite2 ?_ ?_)
  · refine (r_ic (dk D51 17 rfl) ci1).trans ?_
    refine (r_goto (L' := [.ref 34, .int l1, .int l2, .ref l3]) (dk D51 18 rfl) rfl nd51_38 rfl).trans ?_
    exact r_rez (dk D51 20 rfl) rt51 (by decide)
  · refine (r_ic (dk D51 19 rfl) ci0).trans ?_
    exact r_rez (dk D51 20 rfl) rt51 (by decide)
set_option maxRecDepth 20000 in
theorem D52 : dOK 52 [(0, .aload_n 0, 1), (1, .getfield 9, 3), (4, .getfield 58, 3), (7, .istore_n 1, 1), (8, .aload_n 0, 1), (9, .getfield 46, 3), (12, .aload_n 0, 1), (13, .getfield 9, 3), (16, .getfield 93, 3), (19, .if_icmp .ne 4, 3), (22, .return_, 1), (23, .aload_n 0, 1), (24, .aload_n 0, 1), (25, .getfield 9, 3), (28, .getfield 93, 3), (31, .putfield 46, 3), (34, .iconst 0, 1), (35, .istore_n 2, 1), (36, .iload_n 2, 1), (37, .iload_n 1, 1), (38, .if_icmp .ge 96, 3), (41, .iload_n 2, 1), (42, .iconst 1, 1), (43, .iadd, 1), (44, .istore_n 3, 1), (45, .iload_n 3, 1), (46, .iload_n 1, 1), (47, .if_icmp .ge 81, 3), (50, .iload_n 2, 1), (51, .bipush 30, 2), (53, .imul, 1), (54, .iload_n 3, 1), (55, .iadd, 1), (56, .istore 4, 2), (58, .aload_n 0, 1), (59, .getfield 26, 3), (62, .iload 4, 2), (64, .iconst (-1), 1), (65, .iastore, 1), (66, .aload_n 0, 1), (67, .iload_n 2, 1), (68, .iload_n 3, 1), (69, .aload_n 0, 1), (70, .getfield 22, 3), (73, .invokevirtual 94, 3), (76, .ifCond .eq 46, 3), (79, .aload_n 0, 1), (80, .getfield 26, 3), (83, .iload 4, 2), (85, .aload_n 0, 1), (86, .getfield 15, 3), (89, .aload_n 0, 1), (90, .getfield 22, 3), (93, .invokevirtual 98, 3), (96, .iastore, 1), (97, .aload_n 0, 1), (98, .getfield 30, 3), (101, .iload 4, 2), (103, .aload_n 0, 1), (104, .getfield 15, 3), (107, .aload_n 0, 1), (108, .getfield 22, 3), (111, .aload_n 0, 1), (112, .getfield 26, 3), (115, .iload 4, 2), (117, .iaload, 1), (118, .invokevirtual 104, 3), (121, .iastore, 1), (122, .iinc 3 1, 3), (125, .goto (-80), 3), (128, .iinc 2 1, 3), (131, .goto (-95), 3), (134, .return_, 1)] = true := by decide +kernel
theorem E52_0 {d sl : Nat} {p : Nat → Nat} {I : Nat → Nat → Int32} {J : Nat → Nat → Int64}   : den d 52 [.ref 34] (S sl p I J) = (if (I 34 9) = (I 11 15) then some (none, (S sl p I J)) else ev d 52 36 [.ref 34, .int (I 11 14), .int 0, .retAddr 0, .retAddr 0] [] (S sl p (up2 I 34 9 (I 11 15)) J)) := by
  refine (show den d 52 [.ref 34] (S sl p I J) = ev d 52 0 [.ref 34, .retAddr 0, .retAddr 0, .retAddr 0, .retAddr 0] [] (S sl p I J) from rfl).trans ?_
  refine (r_aln (dk D52 0 rfl) rfl).trans ?_
  refine (r_getR (dk D52 1 rfl) ow52 q7_9 ob_34 rfl).trans ?_
  refine (r_getI (dk D52 2 rfl) ow52 q7_58 ob_11).trans ?_
  refine (r_isn (L' := [.ref 34, .int (I 11 14), .retAddr 0, .retAddr 0, .retAddr 0]) (dk D52 3 rfl) (Nat.le_of_ble_eq_true rfl) rfl).trans ?_
  refine (r_aln (dk D52 4 rfl) rfl).trans ?_
  refine (r_getI (dk D52 5 rfl) ow52 q7_46 ob_34).trans ?_
  refine (r_aln (dk D52 6 rfl) rfl).trans ?_
  refine (r_getR (dk D52 7 rfl) ow52 q7_9 ob_34 rfl).trans ?_
  refine (r_getI (dk D52 8 rfl) ow52 q7_93 ob_11).trans ?_
  refine (r_ne (dk D52 9 rfl) rfl).trans (ite2 ?_ ?_)
  · exact r_rev (dk D52 10 rfl) rt52
  · refine (r_aln (dk D52 11 rfl) rfl).trans ?_
    refine (r_aln (dk D52 12 rfl) rfl).trans ?_
    refine (r_getR (dk D52 13 rfl) ow52 q7_9 ob_34 rfl).trans ?_
    refine (r_getI (dk D52 14 rfl) ow52 q7_93 ob_11).trans ?_
    refine (r_putI (dk D52 15 rfl) ow52 w7_46 ob_34).trans ?_
    refine (r_ic (dk D52 16 rfl) ci0).trans ?_
    refine (r_isn (L' := [.ref 34, .int (I 11 14), .int 0, .retAddr 0, .retAddr 0]) (dk D52 17 rfl) (Nat.le_of_ble_eq_true rfl) rfl).trans ?_
    exact rfl
theorem E52_36 {d sl : Nat} {p : Nat → Nat} {I : Nat → Nat → Int32} {J : Nat → Nat → Int64} (l1 : Int32) (l2 : Int32)  : ev d 52 36 [.ref 34, .int l1, .int l2, .retAddr 0, .retAddr 0] [] (S sl p I J) = (if l2 < l1 then ev d 52 45 [.ref 34, .int l1, .int l2, .int (l2 + 1), .retAddr 0] [] (S sl p I J) else some (none, (S sl p I J))) := by
  refine (r_iln (dk D52 18 rfl) rfl).trans ?_
  refine (r_iln (dk D52 19 rfl) rfl).trans ?_
  refine (r_ge (dk D52 20 rfl) rfl).trans (ite2 ?_ ?_)
  · refine (r_iln (dk D52 21 rfl) rfl).trans ?_
    refine (r_ic (dk D52 22 rfl) ci1).trans ?_
    refine (r_iadd (dk D52 23 rfl)).trans ?_
    refine (r_isn (L' := [.ref 34, .int l1, .int l2, .int (l2 + 1), .retAddr 0]) (dk D52 24 rfl) (Nat.le_of_ble_eq_true rfl) rfl).trans ?_
    exact rfl
  · exact r_rev (dk D52 72 rfl) rt52
theorem E52_45 {d sl : Nat} {p : Nat → Nat} {I : Nat → Nat → Int32} {J : Nat → Nat → Int64} (l1 : Int32) (l2 : Int32) (l3 : Int32)  : ev (d + 1) 52 45 [.ref 34, .int l1, .int l2, .int l3, .retAddr 0] [] (S sl p I J) = (if l3 < l1 then ck (ixb 900 ((l2 * 30) + l3)) (evK (d + 1) 52 76 [.ref 34, .int l1, .int l2, .int l3, .int ((l2 * 30) + l3)] [] (den d 51 [.ref 34, .int l2, .int l3, .ref 35] (S sl p (up2 I 36 (Int32.toNatClampNeg ((l2 * 30) + l3)) (-1)) J))) else ev (d + 1) 52 36 [.ref 34, .int l1, .int (l2 + 1), .retAddr 0, .retAddr 0] [] (S sl p I J)) := by
  refine (r_iln (dk D52 25 rfl) rfl).trans ?_
  refine (r_iln (dk D52 26 rfl) rfl).trans ?_
  refine (r_ge (dk D52 27 rfl) rfl).trans (ite2 ?_ ?_)
  · refine (r_iln (dk D52 28 rfl) rfl).trans ?_
    refine (r_bp (dk D52 29 rfl) cb30).trans ?_
    refine (r_imul (dk D52 30 rfl)).trans ?_
    refine (r_iln (dk D52 31 rfl) rfl).trans ?_
    refine (r_iadd (dk D52 32 rfl)).trans ?_
    refine (r_is (L' := [.ref 34, .int l1, .int l2, .int l3, .int ((l2 * 30) + l3)]) (dk D52 33 rfl) (Nat.le_of_ble_eq_true rfl) rfl).trans ?_
    refine (r_aln (dk D52 34 rfl) rfl).trans ?_
    refine (r_getR (dk D52 35 rfl) ow52 q7_26 ob_34 rfl).trans ?_
    refine (r_il (dk D52 36 rfl) rfl).trans ?_
    refine (r_ic (dk D52 37 rfl) cim1).trans ?_
    refine (r_ist (dk D52 38 rfl) ar_36).trans (ck3 fun g1 => ?_)
    refine (r_aln (dk D52 39 rfl) rfl).trans ?_
    refine (r_iln (dk D52 40 rfl) rfl).trans ?_
    refine (r_iln (dk D52 41 rfl) rfl).trans ?_
    refine (r_aln (dk D52 42 rfl) rfl).trans ?_
    refine (r_getR (dk D52 43 rfl) ow52 q7_22 ob_34 rfl).trans ?_
    exact r_cv (dk D52 44 rfl) ow52 c7_94 mf51 (Nat.le_of_ble_eq_true rfl) rfl rfl (Nat.le_of_ble_eq_true rfl) (Nat.le_of_ble_eq_true rfl) ob_34
  · refine (r_inc (L' := [.ref 34, .int l1, .int (l2 + 1), .int l3, .retAddr 0]) (dk D52 70 rfl) rfl rfl ci1 (Nat.le_of_ble_eq_true rfl) rfl).trans ?_
    refine (r_goto (L' := [.ref 34, .int l1, .int (l2 + 1), .retAddr 0, .retAddr 0]) (dk D52 71 rfl) rfl nd52_36 rfl).trans ?_
    exact rfl
theorem E52_76 {d sl : Nat} {p : Nat → Nat} {I : Nat → Nat → Int32} {J : Nat → Nat → Int64} (l1 : Int32) (l2 : Int32) (l3 : Int32) (l4 : Int32) (s0 : Int32)  : ev (d + 1) 52 76 [.ref 34, .int l1, .int l2, .int l3, .int l4] [.int s0] (S sl p I J) = (if s0 = 0 then ev (d + 1) 52 45 [.ref 34, .int l1, .int l2, .int (l3 + 1), .retAddr 0] [] (S sl p I J) else evK (d + 1) 52 96 [.ref 34, .int l1, .int l2, .int l3, .int l4] [.int l4, .ref 36] (den d 33 [.ref 2, .ref 35] (S sl p I J))) := by
  refine (r_eq0 (dk D52 45 rfl) rfl).trans (ite2 ?_ ?_)
  · refine (r_inc (L' := [.ref 34, .int l1, .int l2, .int (l3 + 1), .int l4]) (dk D52 68 rfl) rfl rfl ci1 (Nat.le_of_ble_eq_true rfl) rfl).trans ?_
    refine (r_goto (L' := [.ref 34, .int l1, .int l2, .int (l3 + 1), .retAddr 0]) (dk D52 69 rfl) rfl nd52_45 rfl).trans ?_
    exact rfl
  · refine (r_aln (dk D52 46 rfl) rfl).trans ?_
    refine (r_getR (dk D52 47 rfl) ow52 q7_26 ob_34 rfl).trans ?_
    refine (r_il (dk D52 48 rfl) rfl).trans ?_
    refine (r_aln (dk D52 49 rfl) rfl).trans ?_
    refine (r_getR (dk D52 50 rfl) ow52 q7_15 ob_34 rfl).trans ?_
    refine (r_aln (dk D52 51 rfl) rfl).trans ?_
    refine (r_getR (dk D52 52 rfl) ow52 q7_22 ob_34 rfl).trans ?_
    exact r_cv (dk D52 53 rfl) ow52 c7_98 mf33 (Nat.le_of_ble_eq_true rfl) rfl rfl (Nat.le_of_ble_eq_true rfl) (Nat.le_of_ble_eq_true rfl) ob_2
theorem E52_96 {d sl : Nat} {p : Nat → Nat} {I : Nat → Nat → Int32} {J : Nat → Nat → Int64} (l1 : Int32) (l2 : Int32) (l3 : Int32) (l4 : Int32) (s0 : Int32) (s1 : Int32)  : ev (d + 1) 52 96 [.ref 34, .int l1, .int l2, .int l3, .int l4] [.int s0, .int s1, .ref 36] (S sl p I J) = ck (ixb 900 s1) (ck (ixb 900 l4) (evK (d + 1) 52 121 [.ref 34, .int l1, .int l2, .int l3, .int l4] [.int l4, .ref 37] (den d 36 [.ref 2, .ref 35, .int ((up2 I 36 (Int32.toNatClampNeg s1) s0) 36 (Int32.toNatClampNeg l4))] (S sl p (up2 I 36 (Int32.toNatClampNeg s1) s0) J)))) := by
  refine (r_ist (dk D52 54 rfl) ar_36).trans (ck3 fun g1 => ?_)
  refine (r_aln (dk D52 55 rfl) rfl).trans ?_
  refine (r_getR (dk D52 56 rfl) ow52 q7_30 ob_34 rfl).trans ?_
  refine (r_il (dk D52 57 rfl) rfl).trans ?_
  refine (r_aln (dk D52 58 rfl) rfl).trans ?_
  refine (r_getR (dk D52 59 rfl) ow52 q7_15 ob_34 rfl).trans ?_
  refine (r_aln (dk D52 60 rfl) rfl).trans ?_
  refine (r_getR (dk D52 61 rfl) ow52 q7_22 ob_34 rfl).trans ?_
  refine (r_aln (dk D52 62 rfl) rfl).trans ?_
  refine (r_getR (dk D52 63 rfl) ow52 q7_26 ob_34 rfl).trans ?_
  refine (r_il (dk D52 64 rfl) rfl).trans ?_
  refine (r_ild (dk D52 65 rfl) ar_36).trans (ck3 fun g2 => ?_)
  exact r_cv (dk D52 66 rfl) ow52 c7_104 mf36 (Nat.le_of_ble_eq_true rfl) rfl rfl (Nat.le_of_ble_eq_true rfl) (Nat.le_of_ble_eq_true rfl) ob_2
theorem E52_121 {d sl : Nat} {p : Nat → Nat} {I : Nat → Nat → Int32} {J : Nat → Nat → Int64} (l1 : Int32) (l2 : Int32) (l3 : Int32) (l4 : Int32) (s0 : Int32) (s1 : Int32)  : ev d 52 121 [.ref 34, .int l1, .int l2, .int l3, .int l4] [.int s0, .int s1, .ref 37] (S sl p I J) = ck (ixb 900 s1) (ev d 52 45 [.ref 34, .int l1, .int l2, .int (l3 + 1), .retAddr 0] [] (S sl p (up2 I 37 (Int32.toNatClampNeg s1) s0) J)) := by
  refine (r_ist (dk D52 67 rfl) ar_37).trans (ck3 fun g1 => ?_)
  refine (r_inc (L' := [.ref 34, .int l1, .int l2, .int (l3 + 1), .int l4]) (dk D52 68 rfl) rfl rfl ci1 (Nat.le_of_ble_eq_true rfl) rfl).trans ?_
  refine (r_goto (L' := [.ref 34, .int l1, .int l2, .int (l3 + 1), .retAddr 0]) (dk D52 69 rfl) rfl nd52_45 rfl).trans ?_
  exact rfl
set_option maxRecDepth 20000 in
theorem D53 : dOK 53 [(0, .aload_n 0, 1), (1, .getfield 26, 3), (4, .iload_n 1, 1), (5, .iaload, 1), (6, .istore 4, 2), (8, .aload_n 0, 1), (9, .getfield 30, 3), (12, .iload_n 1, 1), (13, .iaload, 1), (14, .istore 5, 2), (16, .iload 4, 2), (18, .ifCond .lt 12, 3), (21, .iload 5, 2), (23, .aload_n 0, 1), (24, .getfield 40, 3), (27, .if_icmp .gt 5, 3), (30, .iconst 0, 1), (31, .ireturn, 1), (32, .iload 4, 2), (34, .iload_n 2, 1), (35, .invokestatic 75, 3), (38, .istore 6, 2), (40, .iload 6, 2), (42, .bipush 90, 2), (44, .if_icmp .lt 5, 3), (47, .iconst 0, 1), (48, .ireturn, 1), (49, .aload_n 0, 1), (50, .getfield 15, 3), (53, .iload 5, 2), (55, .invokevirtual 108, 3), (58, .i2l, 1), (59, .aload_n 0, 1), (60, .getfield 15, 3), (63, .iload_n 3, 1), (64, .invokevirtual 112, 3), (67, .i2l, 1), (68, .lmul, 1), (69, .ldc2_w 115, 3), (72, .lmul, 1), (73, .lstore 7, 2), (75, .lload 7, 2), (77, .aload_n 0, 1), (78, .getfield 15, 3), (81, .iload_n 3, 1), (82, .invokevirtual 108, 3), (85, .i2l, 1), (86, .aload_n 0, 1), (87, .getfield 15, 3), (90, .iload 6, 2), (92, .invokevirtual 112, 3), (95, .i2l, 1), (96, .lmul, 1), (97, .aload_n 0, 1), (98, .getfield 15, 3), (101, .iload 5, 2), (103, .invokevirtual 112, 3), (106, .i2l, 1), (107, .lmul, 1), (108, .lcmp, 1), (109, .ifCond .ge 7, 3), (112, .iconst 1, 1), (113, .goto 4, 3), (116, .iconst 0, 1), (117, .ireturn, 1)] = true := by decide +kernel
theorem E53_0 {d sl : Nat} {p : Nat → Nat} {I : Nat → Nat → Int32} {J : Nat → Nat → Int64} (a1 : Int32) (a2 : Int32) (a3 : Int32)  : den (d + 1) 53 [.ref 34, .int a1, .int a2, .int a3] (S sl p I J) = ck (ixb 900 a1) (ck (ixb 900 a1) ((if (I 36 (Int32.toNatClampNeg a1)) < 0 then some (some (.int 0), (S sl p I J)) else (if (I 37 (Int32.toNatClampNeg a1)) ≤ (I 34 7) then some (some (.int 0), (S sl p I J)) else evK (d + 1) 53 38 [.ref 34, .int a1, .int a2, .int a3, .int (I 36 (Int32.toNatClampNeg a1)), .int (I 37 (Int32.toNatClampNeg a1)), .retAddr 0, .retAddr 0, .retAddr 0] [] (den d 48 [.int (I 36 (Int32.toNatClampNeg a1)), .int a2] (S sl p I J)))))) := by
  refine (show den (d + 1) 53 [.ref 34, .int a1, .int a2, .int a3] (S sl p I J) = ev (d + 1) 53 0 [.ref 34, .int a1, .int a2, .int a3, .retAddr 0, .retAddr 0, .retAddr 0, .retAddr 0, .retAddr 0] [] (S sl p I J) from rfl).trans ?_
  refine (r_aln (dk D53 0 rfl) rfl).trans ?_
  refine (r_getR (dk D53 1 rfl) ow53 q7_26 ob_34 rfl).trans ?_
  refine (r_iln (dk D53 2 rfl) rfl).trans ?_
  refine (r_ild (dk D53 3 rfl) ar_36).trans (ck3 fun g1 => ?_)
  refine (r_is (L' := [.ref 34, .int a1, .int a2, .int a3, .int (I 36 (Int32.toNatClampNeg a1)), .retAddr 0, .retAddr 0, .retAddr 0, .retAddr 0]) (dk D53 4 rfl) (Nat.le_of_ble_eq_true rfl) rfl).trans ?_
  refine (r_aln (dk D53 5 rfl) rfl).trans ?_
  refine (r_getR (dk D53 6 rfl) ow53 q7_30 ob_34 rfl).trans ?_
  refine (r_iln (dk D53 7 rfl) rfl).trans ?_
  refine (r_ild (dk D53 8 rfl) ar_37).trans (ck3 fun g2 => ?_)
  refine (r_is (L' := [.ref 34, .int a1, .int a2, .int a3, .int (I 36 (Int32.toNatClampNeg a1)), .int (I 37 (Int32.toNatClampNeg a1)), .retAddr 0, .retAddr 0, .retAddr 0]) (dk D53 9 rfl) (Nat.le_of_ble_eq_true rfl) rfl).trans ?_
  refine (r_il (dk D53 10 rfl) rfl).trans ?_
  refine (r_lt0 (dk D53 11 rfl) rfl).trans (ite2 ?_ ?_)
  · refine (r_ic (dk D53 16 rfl) ci0).trans ?_
    exact r_rez (dk D53 17 rfl) rt53 (by decide)
  · refine (r_il (dk D53 12 rfl) rfl).trans ?_
    refine (r_aln (dk D53 13 rfl) rfl).trans ?_
    refine (r_getI (dk D53 14 rfl) ow53 q7_40 ob_34).trans ?_
    refine (r_gt (dk D53 15 rfl) rfl).trans (ite2 ?_ ?_)
    · refine (r_ic (dk D53 16 rfl) ci0).trans ?_
      exact r_rez (dk D53 17 rfl) rt53 (by decide)
    · refine (r_il (dk D53 18 rfl) rfl).trans ?_
      refine (r_iln (dk D53 19 rfl) rfl).trans ?_
      exact r_cs (dk D53 20 rfl) ow53 pn7_75 c7_75 mf48 (Nat.le_of_ble_eq_true rfl) rfl rfl (Nat.le_of_ble_eq_true rfl) (Nat.le_of_ble_eq_true rfl)
theorem E53_38 {d sl : Nat} {p : Nat → Nat} {I : Nat → Nat → Int32} {J : Nat → Nat → Int64} (l1 : Int32) (l2 : Int32) (l3 : Int32) (l4 : Int32) (l5 : Int32) (s0 : Int32)  : ev (d + 1) 53 38 [.ref 34, .int l1, .int l2, .int l3, .int l4, .int l5, .retAddr 0, .retAddr 0, .retAddr 0] [.int s0] (S sl p I J) = (if s0 < 90 then evK (d + 1) 53 58 [.ref 34, .int l1, .int l2, .int l3, .int l4, .int l5, .int s0, .retAddr 0, .retAddr 0] [] (den d 26 [.ref 2, .int l5] (S sl p I J)) else some (some (.int 0), (S sl p I J))) := by
  refine (r_is (L' := [.ref 34, .int l1, .int l2, .int l3, .int l4, .int l5, .int s0, .retAddr 0, .retAddr 0]) (dk D53 21 rfl) (Nat.le_of_ble_eq_true rfl) rfl).trans ?_
  refine (r_il (dk D53 22 rfl) rfl).trans ?_
  refine (r_bp (dk D53 23 rfl) cb90).trans ?_
  refine (r_lt (dk D53 24 rfl) rfl).trans (ite2 ?_ ?_)
  · refine (r_aln (dk D53 27 rfl) rfl).trans ?_
    refine (r_getR (dk D53 28 rfl) ow53 q7_15 ob_34 rfl).trans ?_
    refine (r_il (dk D53 29 rfl) rfl).trans ?_
    exact r_cv (dk D53 30 rfl) ow53 c7_108 mf26 (Nat.le_of_ble_eq_true rfl) rfl rfl (Nat.le_of_ble_eq_true rfl) (Nat.le_of_ble_eq_true rfl) ob_2
  · refine (r_ic (dk D53 25 rfl) ci0).trans ?_
    exact r_rez (dk D53 26 rfl) rt53 (by decide)
theorem E53_58 {d sl : Nat} {p : Nat → Nat} {I : Nat → Nat → Int32} {J : Nat → Nat → Int64} (l1 : Int32) (l2 : Int32) (l3 : Int32) (l4 : Int32) (l5 : Int32) (l6 : Int32) (s0 : Int32)  : ev (d + 1) 53 58 [.ref 34, .int l1, .int l2, .int l3, .int l4, .int l5, .int l6, .retAddr 0, .retAddr 0] [.int s0] (S sl p I J) = evK (d + 1) 53 67 [.ref 34, .int l1, .int l2, .int l3, .int l4, .int l5, .int l6, .retAddr 0, .retAddr 0] [.long (Int32.toInt64 s0)] (den d 27 [.ref 2, .int l3] (S sl p I J)) := by
  refine (r_i2l (dk D53 31 rfl)).trans ?_
  refine (r_aln (dk D53 32 rfl) rfl).trans ?_
  refine (r_getR (dk D53 33 rfl) ow53 q7_15 ob_34 rfl).trans ?_
  refine (r_iln (dk D53 34 rfl) rfl).trans ?_
  exact r_cv (dk D53 35 rfl) ow53 c7_112 mf27 (Nat.le_of_ble_eq_true rfl) rfl rfl (Nat.le_of_ble_eq_true rfl) (Nat.le_of_ble_eq_true rfl) ob_2
theorem E53_67 {d sl : Nat} {p : Nat → Nat} {I : Nat → Nat → Int32} {J : Nat → Nat → Int64} (l1 : Int32) (l2 : Int32) (l3 : Int32) (l4 : Int32) (l5 : Int32) (l6 : Int32) (s0 : Int32) (s1 : Int64)  : ev (d + 1) 53 67 [.ref 34, .int l1, .int l2, .int l3, .int l4, .int l5, .int l6, .retAddr 0, .retAddr 0] [.int s0, .long s1] (S sl p I J) = evK (d + 1) 53 85 [.ref 34, .int l1, .int l2, .int l3, .int l4, .int l5, .int l6, .long ((s1 * (Int32.toInt64 s0)) * 1000), .retAddr 0] [.long ((s1 * (Int32.toInt64 s0)) * 1000)] (den d 26 [.ref 2, .int l3] (S sl p I J)) := by
  refine (r_i2l (dk D53 36 rfl)).trans ?_
  refine (r_lmul (dk D53 37 rfl)).trans ?_
  refine (r_ld2 (dk D53 38 rfl) ow53 kk7_115).trans ?_
  refine (r_lmul (dk D53 39 rfl)).trans ?_
  refine (r_ls (L' := [.ref 34, .int l1, .int l2, .int l3, .int l4, .int l5, .int l6, .long ((s1 * (Int32.toInt64 s0)) * 1000), .retAddr 0]) (dk D53 40 rfl) (Nat.le_of_ble_eq_true rfl) rfl).trans ?_
  refine (r_ll (dk D53 41 rfl) rfl).trans ?_
  refine (r_aln (dk D53 42 rfl) rfl).trans ?_
  refine (r_getR (dk D53 43 rfl) ow53 q7_15 ob_34 rfl).trans ?_
  refine (r_iln (dk D53 44 rfl) rfl).trans ?_
  exact r_cv (dk D53 45 rfl) ow53 c7_108 mf26 (Nat.le_of_ble_eq_true rfl) rfl rfl (Nat.le_of_ble_eq_true rfl) (Nat.le_of_ble_eq_true rfl) ob_2
theorem E53_85 {d sl : Nat} {p : Nat → Nat} {I : Nat → Nat → Int32} {J : Nat → Nat → Int64} (l1 : Int32) (l2 : Int32) (l3 : Int32) (l4 : Int32) (l5 : Int32) (l6 : Int32) (l7 : Int64) (s0 : Int32) (s1 : Int64)  : ev (d + 1) 53 85 [.ref 34, .int l1, .int l2, .int l3, .int l4, .int l5, .int l6, .long l7, .retAddr 0] [.int s0, .long s1] (S sl p I J) = evK (d + 1) 53 95 [.ref 34, .int l1, .int l2, .int l3, .int l4, .int l5, .int l6, .long l7, .retAddr 0] [.long (Int32.toInt64 s0), .long s1] (den d 27 [.ref 2, .int l6] (S sl p I J)) := by
  refine (r_i2l (dk D53 46 rfl)).trans ?_
  refine (r_aln (dk D53 47 rfl) rfl).trans ?_
  refine (r_getR (dk D53 48 rfl) ow53 q7_15 ob_34 rfl).trans ?_
  refine (r_il (dk D53 49 rfl) rfl).trans ?_
  exact r_cv (dk D53 50 rfl) ow53 c7_112 mf27 (Nat.le_of_ble_eq_true rfl) rfl rfl (Nat.le_of_ble_eq_true rfl) (Nat.le_of_ble_eq_true rfl) ob_2
theorem E53_95 {d sl : Nat} {p : Nat → Nat} {I : Nat → Nat → Int32} {J : Nat → Nat → Int64} (l1 : Int32) (l2 : Int32) (l3 : Int32) (l4 : Int32) (l5 : Int32) (l6 : Int32) (l7 : Int64) (s0 : Int32) (s1 : Int64) (s2 : Int64)  : ev (d + 1) 53 95 [.ref 34, .int l1, .int l2, .int l3, .int l4, .int l5, .int l6, .long l7, .retAddr 0] [.int s0, .long s1, .long s2] (S sl p I J) = evK (d + 1) 53 106 [.ref 34, .int l1, .int l2, .int l3, .int l4, .int l5, .int l6, .long l7, .retAddr 0] [.long (s1 * (Int32.toInt64 s0)), .long s2] (den d 27 [.ref 2, .int l5] (S sl p I J)) := by
  refine (r_i2l (dk D53 51 rfl)).trans ?_
  refine (r_lmul (dk D53 52 rfl)).trans ?_
  refine (r_aln (dk D53 53 rfl) rfl).trans ?_
  refine (r_getR (dk D53 54 rfl) ow53 q7_15 ob_34 rfl).trans ?_
  refine (r_il (dk D53 55 rfl) rfl).trans ?_
  exact r_cv (dk D53 56 rfl) ow53 c7_112 mf27 (Nat.le_of_ble_eq_true rfl) rfl rfl (Nat.le_of_ble_eq_true rfl) (Nat.le_of_ble_eq_true rfl) ob_2
theorem E53_106 {d sl : Nat} {p : Nat → Nat} {I : Nat → Nat → Int32} {J : Nat → Nat → Int64} (l1 : Int32) (l2 : Int32) (l3 : Int32) (l4 : Int32) (l5 : Int32) (l6 : Int32) (l7 : Int64) (s0 : Int32) (s1 : Int64) (s2 : Int64)  : ev d 53 106 [.ref 34, .int l1, .int l2, .int l3, .int l4, .int l5, .int l6, .long l7, .retAddr 0] [.int s0, .long s1, .long s2] (S sl p I J) = (if s2 < (s1 * (Int32.toInt64 s0)) then some (some (.int 1), (S sl p I J)) else some (some (.int 0), (S sl p I J))) := by
  refine (r_i2l (dk D53 57 rfl)).trans ?_
  refine (r_lmul (dk D53 58 rfl)).trans ?_
  refine (r_jge (dk D53 59 rfl) (dk D53 60 rfl) rfl).trans (ite2 ?_ ?_)
  · refine (r_ic (dk D53 61 rfl) ci1).trans ?_
    refine (r_goto (L' := [.ref 34, .int l1, .int l2, .int l3, .int l4, .int l5, .int l6, .long l7, .retAddr 0]) (dk D53 62 rfl) rfl nd53_117 rfl).trans ?_
    exact r_rez (dk D53 64 rfl) rt53 (by decide)
  · refine (r_ic (dk D53 63 rfl) ci0).trans ?_
    exact r_rez (dk D53 64 rfl) rt53 (by decide)
set_option maxRecDepth 20000 in
theorem D54 : dOK 54 [(0, .aload_n 0, 1), (1, .getfield 9, 3), (4, .getfield 58, 3), (7, .istore_n 3, 1), (8, .iconst 0, 1), (9, .istore 4, 2), (11, .iconst 0, 1), (12, .istore 5, 2), (14, .iload 5, 2), (16, .iload_n 3, 1), (17, .if_icmp .ge 47, 3), (20, .iload 5, 2), (22, .iconst 1, 1), (23, .iadd, 1), (24, .istore 6, 2), (26, .iload 6, 2), (28, .iload_n 3, 1), (29, .if_icmp .ge 29, 3), (32, .aload_n 0, 1), (33, .iload 5, 2), (35, .bipush 30, 2), (37, .imul, 1), (38, .iload 6, 2), (40, .iadd, 1), (41, .iload_n 1, 1), (42, .iload_n 2, 1), (43, .invokevirtual 117, 3), (46, .ifCond .eq 6, 3), (49, .iinc 4 1, 3), (52, .iinc 6 1, 3), (55, .goto (-29), 3), (58, .iinc 5 1, 3), (61, .goto (-47), 3), (64, .iload 4, 2), (66, .ireturn, 1)] = true := by decide +kernel
theorem E54_0 {d sl : Nat} {p : Nat → Nat} {I : Nat → Nat → Int32} {J : Nat → Nat → Int64} (a1 : Int32) (a2 : Int32)  : den d 54 [.ref 34, .int a1, .int a2] (S sl p I J) = ev d 54 14 [.ref 34, .int a1, .int a2, .int (I 11 14), .int 0, .int 0, .retAddr 0] [] (S sl p I J) := by
  refine (show den d 54 [.ref 34, .int a1, .int a2] (S sl p I J) = ev d 54 0 [.ref 34, .int a1, .int a2, .retAddr 0, .retAddr 0, .retAddr 0, .retAddr 0] [] (S sl p I J) from rfl).trans ?_
  refine (r_aln (dk D54 0 rfl) rfl).trans ?_
  refine (r_getR (dk D54 1 rfl) ow54 q7_9 ob_34 rfl).trans ?_
  refine (r_getI (dk D54 2 rfl) ow54 q7_58 ob_11).trans ?_
  refine (r_isn (L' := [.ref 34, .int a1, .int a2, .int (I 11 14), .retAddr 0, .retAddr 0, .retAddr 0]) (dk D54 3 rfl) (Nat.le_of_ble_eq_true rfl) rfl).trans ?_
  refine (r_ic (dk D54 4 rfl) ci0).trans ?_
  refine (r_is (L' := [.ref 34, .int a1, .int a2, .int (I 11 14), .int 0, .retAddr 0, .retAddr 0]) (dk D54 5 rfl) (Nat.le_of_ble_eq_true rfl) rfl).trans ?_
  refine (r_ic (dk D54 6 rfl) ci0).trans ?_
  refine (r_is (L' := [.ref 34, .int a1, .int a2, .int (I 11 14), .int 0, .int 0, .retAddr 0]) (dk D54 7 rfl) (Nat.le_of_ble_eq_true rfl) rfl).trans ?_
  exact rfl
theorem E54_14 {d sl : Nat} {p : Nat → Nat} {I : Nat → Nat → Int32} {J : Nat → Nat → Int64} (l1 : Int32) (l2 : Int32) (l3 : Int32) (l4 : Int32) (l5 : Int32)  : ev d 54 14 [.ref 34, .int l1, .int l2, .int l3, .int l4, .int l5, .retAddr 0] [] (S sl p I J) = (if l5 < l3 then ev d 54 26 [.ref 34, .int l1, .int l2, .int l3, .int l4, .int l5, .int (l5 + 1)] [] (S sl p I J) else some (some (.int l4), (S sl p I J))) := by
  refine (r_il (dk D54 8 rfl) rfl).trans ?_
  refine (r_iln (dk D54 9 rfl) rfl).trans ?_
  refine (r_ge (dk D54 10 rfl) rfl).trans (ite2 ?_ ?_)
  · refine (r_il (dk D54 11 rfl) rfl).trans ?_
    refine (r_ic (dk D54 12 rfl) ci1).trans ?_
    refine (r_iadd (dk D54 13 rfl)).trans ?_
    refine (r_is (L' := [.ref 34, .int l1, .int l2, .int l3, .int l4, .int l5, .int (l5 + 1)]) (dk D54 14 rfl) (Nat.le_of_ble_eq_true rfl) rfl).trans ?_
    exact rfl
  · refine (r_il (dk D54 33 rfl) rfl).trans ?_
    exact r_ret (dk D54 34 rfl) rt54
theorem E54_26 {d sl : Nat} {p : Nat → Nat} {I : Nat → Nat → Int32} {J : Nat → Nat → Int64} (l1 : Int32) (l2 : Int32) (l3 : Int32) (l4 : Int32) (l5 : Int32) (l6 : Int32)  : ev (d + 1) 54 26 [.ref 34, .int l1, .int l2, .int l3, .int l4, .int l5, .int l6] [] (S sl p I J) = (if l6 < l3 then evK (d + 1) 54 46 [.ref 34, .int l1, .int l2, .int l3, .int l4, .int l5, .int l6] [] (den d 53 [.ref 34, .int ((l5 * 30) + l6), .int l1, .int l2] (S sl p I J)) else ev (d + 1) 54 14 [.ref 34, .int l1, .int l2, .int l3, .int l4, .int (l5 + 1), .retAddr 0] [] (S sl p I J)) := by
  refine (r_il (dk D54 15 rfl) rfl).trans ?_
  refine (r_iln (dk D54 16 rfl) rfl).trans ?_
  refine (r_ge (dk D54 17 rfl) rfl).trans (ite2 ?_ ?_)
  · refine (r_aln (dk D54 18 rfl) rfl).trans ?_
    refine (r_il (dk D54 19 rfl) rfl).trans ?_
    refine (r_bp (dk D54 20 rfl) cb30).trans ?_
    refine (r_imul (dk D54 21 rfl)).trans ?_
    refine (r_il (dk D54 22 rfl) rfl).trans ?_
    refine (r_iadd (dk D54 23 rfl)).trans ?_
    refine (r_iln (dk D54 24 rfl) rfl).trans ?_
    refine (r_iln (dk D54 25 rfl) rfl).trans ?_
    exact r_cv (dk D54 26 rfl) ow54 c7_117 mf53 (Nat.le_of_ble_eq_true rfl) rfl rfl (Nat.le_of_ble_eq_true rfl) (Nat.le_of_ble_eq_true rfl) ob_34
  · refine (r_inc (L' := [.ref 34, .int l1, .int l2, .int l3, .int l4, .int (l5 + 1), .int l6]) (dk D54 31 rfl) rfl rfl ci1 (Nat.le_of_ble_eq_true rfl) rfl).trans ?_
    refine (r_goto (L' := [.ref 34, .int l1, .int l2, .int l3, .int l4, .int (l5 + 1), .retAddr 0]) (dk D54 32 rfl) rfl nd54_14 rfl).trans ?_
    exact rfl
theorem E54_46 {d sl : Nat} {p : Nat → Nat} {I : Nat → Nat → Int32} {J : Nat → Nat → Int64} (l1 : Int32) (l2 : Int32) (l3 : Int32) (l4 : Int32) (l5 : Int32) (l6 : Int32) (s0 : Int32)  : ev d 54 46 [.ref 34, .int l1, .int l2, .int l3, .int l4, .int l5, .int l6] [.int s0] (S sl p I J) = (if s0 = 0 then ev d 54 26 [.ref 34, .int l1, .int l2, .int l3, .int l4, .int l5, .int (l6 + 1)] [] (S sl p I J) else ev d 54 26 [.ref 34, .int l1, .int l2, .int l3, .int (l4 + 1), .int l5, .int (l6 + 1)] [] (S sl p I J)) := by
  refine (r_eq0 (dk D54 27 rfl) rfl).trans (ite2 ?_ ?_)
  · refine (r_inc (L' := [.ref 34, .int l1, .int l2, .int l3, .int l4, .int l5, .int (l6 + 1)]) (dk D54 29 rfl) rfl rfl ci1 (Nat.le_of_ble_eq_true rfl) rfl).trans ?_
    refine (r_goto (L' := [.ref 34, .int l1, .int l2, .int l3, .int l4, .int l5, .int (l6 + 1)]) (dk D54 30 rfl) rfl nd54_26 rfl).trans ?_
    exact rfl
  · refine (r_inc (L' := [.ref 34, .int l1, .int l2, .int l3, .int (l4 + 1), .int l5, .int l6]) (dk D54 28 rfl) rfl rfl ci1 (Nat.le_of_ble_eq_true rfl) rfl).trans ?_
    refine (r_inc (L' := [.ref 34, .int l1, .int l2, .int l3, .int (l4 + 1), .int l5, .int (l6 + 1)]) (dk D54 29 rfl) rfl rfl ci1 (Nat.le_of_ble_eq_true rfl) rfl).trans ?_
    refine (r_goto (L' := [.ref 34, .int l1, .int l2, .int l3, .int (l4 + 1), .int l5, .int (l6 + 1)]) (dk D54 30 rfl) rfl nd54_26 rfl).trans ?_
    exact rfl
set_option maxRecDepth 20000 in
theorem D55 : dOK 55 [(0, .aload_n 0, 1), (1, .getfield 9, 3), (4, .getfield 58, 3), (7, .istore_n 1, 1), (8, .iconst 0, 1), (9, .istore_n 2, 1), (10, .iload_n 2, 1), (11, .iload_n 1, 1), (12, .if_icmp .ge 52, 3), (15, .iload_n 2, 1), (16, .iconst 1, 1), (17, .iadd, 1), (18, .istore_n 3, 1), (19, .iload_n 3, 1), (20, .iload_n 1, 1), (21, .if_icmp .ge 37, 3), (24, .aload_n 0, 1), (25, .iload_n 2, 1), (26, .bipush 30, 2), (28, .imul, 1), (29, .iload_n 3, 1), (30, .iadd, 1), (31, .aload_n 0, 1), (32, .getfield 33, 3), (35, .aload_n 0, 1), (36, .getfield 37, 3), (39, .invokevirtual 117, 3), (42, .ifCond .eq 10, 3), (45, .bipush 100, 2), (47, .iload_n 2, 1), (48, .imul, 1), (49, .iload_n 3, 1), (50, .iadd, 1), (51, .ireturn, 1), (52, .iinc 3 1, 3), (55, .goto (-36), 3), (58, .iinc 2 1, 3), (61, .goto (-51), 3), (64, .iconst (-1), 1), (65, .ireturn, 1)] = true := by decide +kernel
theorem E55_0 {d sl : Nat} {p : Nat → Nat} {I : Nat → Nat → Int32} {J : Nat → Nat → Int64}   : den d 55 [.ref 34] (S sl p I J) = ev d 55 10 [.ref 34, .int (I 11 14), .int 0, .retAddr 0] [] (S sl p I J) := by
  refine (show den d 55 [.ref 34] (S sl p I J) = ev d 55 0 [.ref 34, .retAddr 0, .retAddr 0, .retAddr 0] [] (S sl p I J) from rfl).trans ?_
  refine (r_aln (dk D55 0 rfl) rfl).trans ?_
  refine (r_getR (dk D55 1 rfl) ow55 q7_9 ob_34 rfl).trans ?_
  refine (r_getI (dk D55 2 rfl) ow55 q7_58 ob_11).trans ?_
  refine (r_isn (L' := [.ref 34, .int (I 11 14), .retAddr 0, .retAddr 0]) (dk D55 3 rfl) (Nat.le_of_ble_eq_true rfl) rfl).trans ?_
  refine (r_ic (dk D55 4 rfl) ci0).trans ?_
  refine (r_isn (L' := [.ref 34, .int (I 11 14), .int 0, .retAddr 0]) (dk D55 5 rfl) (Nat.le_of_ble_eq_true rfl) rfl).trans ?_
  exact rfl
theorem E55_10 {d sl : Nat} {p : Nat → Nat} {I : Nat → Nat → Int32} {J : Nat → Nat → Int64} (l1 : Int32) (l2 : Int32)  : ev d 55 10 [.ref 34, .int l1, .int l2, .retAddr 0] [] (S sl p I J) = (if l2 < l1 then ev d 55 19 [.ref 34, .int l1, .int l2, .int (l2 + 1)] [] (S sl p I J) else some (some (.int (-1)), (S sl p I J))) := by
  refine (r_iln (dk D55 6 rfl) rfl).trans ?_
  refine (r_iln (dk D55 7 rfl) rfl).trans ?_
  refine (r_ge (dk D55 8 rfl) rfl).trans (ite2 ?_ ?_)
  · refine (r_iln (dk D55 9 rfl) rfl).trans ?_
    refine (r_ic (dk D55 10 rfl) ci1).trans ?_
    refine (r_iadd (dk D55 11 rfl)).trans ?_
    refine (r_isn (L' := [.ref 34, .int l1, .int l2, .int (l2 + 1)]) (dk D55 12 rfl) (Nat.le_of_ble_eq_true rfl) rfl).trans ?_
    exact rfl
  · refine (r_ic (dk D55 38 rfl) cim1).trans ?_
    exact r_ret (dk D55 39 rfl) rt55
theorem E55_19 {d sl : Nat} {p : Nat → Nat} {I : Nat → Nat → Int32} {J : Nat → Nat → Int64} (l1 : Int32) (l2 : Int32) (l3 : Int32)  : ev (d + 1) 55 19 [.ref 34, .int l1, .int l2, .int l3] [] (S sl p I J) = (if l3 < l1 then evK (d + 1) 55 42 [.ref 34, .int l1, .int l2, .int l3] [] (den d 53 [.ref 34, .int ((l2 * 30) + l3), .int (I 34 5), .int (I 34 6)] (S sl p I J)) else ev (d + 1) 55 10 [.ref 34, .int l1, .int (l2 + 1), .retAddr 0] [] (S sl p I J)) := by
  refine (r_iln (dk D55 13 rfl) rfl).trans ?_
  refine (r_iln (dk D55 14 rfl) rfl).trans ?_
  refine (r_ge (dk D55 15 rfl) rfl).trans (ite2 ?_ ?_)
  · refine (r_aln (dk D55 16 rfl) rfl).trans ?_
    refine (r_iln (dk D55 17 rfl) rfl).trans ?_
    refine (r_bp (dk D55 18 rfl) cb30).trans ?_
    refine (r_imul (dk D55 19 rfl)).trans ?_
    refine (r_iln (dk D55 20 rfl) rfl).trans ?_
    refine (r_iadd (dk D55 21 rfl)).trans ?_
    refine (r_aln (dk D55 22 rfl) rfl).trans ?_
    refine (r_getI (dk D55 23 rfl) ow55 q7_33 ob_34).trans ?_
    refine (r_aln (dk D55 24 rfl) rfl).trans ?_
    refine (r_getI (dk D55 25 rfl) ow55 q7_37 ob_34).trans ?_
    exact r_cv (dk D55 26 rfl) ow55 c7_117 mf53 (Nat.le_of_ble_eq_true rfl) rfl rfl (Nat.le_of_ble_eq_true rfl) (Nat.le_of_ble_eq_true rfl) ob_34
  · refine (r_inc (L' := [.ref 34, .int l1, .int (l2 + 1), .int l3]) (dk D55 36 rfl) rfl rfl ci1 (Nat.le_of_ble_eq_true rfl) rfl).trans ?_
    refine (r_goto (L' := [.ref 34, .int l1, .int (l2 + 1), .retAddr 0]) (dk D55 37 rfl) rfl nd55_10 rfl).trans ?_
    exact rfl
theorem E55_42 {d sl : Nat} {p : Nat → Nat} {I : Nat → Nat → Int32} {J : Nat → Nat → Int64} (l1 : Int32) (l2 : Int32) (l3 : Int32) (s0 : Int32)  : ev d 55 42 [.ref 34, .int l1, .int l2, .int l3] [.int s0] (S sl p I J) = (if s0 = 0 then ev d 55 19 [.ref 34, .int l1, .int l2, .int (l3 + 1)] [] (S sl p I J) else some (some (.int ((100 * l2) + l3)), (S sl p I J))) := by
  refine (r_eq0 (dk D55 27 rfl) rfl).trans (ite2 ?_ ?_)
  · refine (r_inc (L' := [.ref 34, .int l1, .int l2, .int (l3 + 1)]) (dk D55 34 rfl) rfl rfl ci1 (Nat.le_of_ble_eq_true rfl) rfl).trans ?_
    refine (r_goto (L' := [.ref 34, .int l1, .int l2, .int (l3 + 1)]) (dk D55 35 rfl) rfl nd55_19 rfl).trans ?_
    exact rfl
  · refine (r_bp (dk D55 28 rfl) cb100).trans ?_
    refine (r_iln (dk D55 29 rfl) rfl).trans ?_
    refine (r_imul (dk D55 30 rfl)).trans ?_
    refine (r_iln (dk D55 31 rfl) rfl).trans ?_
    refine (r_iadd (dk D55 32 rfl)).trans ?_
    exact r_ret (dk D55 33 rfl) rt55
set_option maxRecDepth 20000 in
theorem D56 : dOK 56 [(0, .aload_n 0, 1), (1, .iload_n 1, 1), (2, .iload_n 2, 1), (3, .invokevirtual 121, 3), (6, .invokestatic 124, 3), (9, .istore_n 3, 1), (10, .aload_n 0, 1), (11, .iload_n 1, 1), (12, .iload_n 2, 1), (13, .invokevirtual 129, 3), (16, .invokestatic 124, 3), (19, .istore 4, 2), (21, .iload_n 3, 1), (22, .iload 4, 2), (24, .iadd, 1), (25, .aload_n 0, 1), (26, .iload_n 1, 1), (27, .iload_n 2, 1), (28, .invokevirtual 132, 3), (31, .iadd, 1), (32, .ireturn, 1)] = true := by decide +kernel
theorem E56_0 {d sl : Nat} {p : Nat → Nat} {I : Nat → Nat → Int32} {J : Nat → Nat → Int64} (a1 : Int32) (a2 : Int32)  : den (d + 1) 56 [.ref 34, .int a1, .int a2] (S sl p I J) = evK (d + 1) 56 6 [.ref 34, .int a1, .int a2, .retAddr 0, .retAddr 0] [] (den d 49 [.ref 34, .int a1, .int a2] (S sl p I J)) := by
  refine (show den (d + 1) 56 [.ref 34, .int a1, .int a2] (S sl p I J) = ev (d + 1) 56 0 [.ref 34, .int a1, .int a2, .retAddr 0, .retAddr 0] [] (S sl p I J) from rfl).trans ?_
  refine (r_aln (dk D56 0 rfl) rfl).trans ?_
  refine (r_iln (dk D56 1 rfl) rfl).trans ?_
  refine (r_iln (dk D56 2 rfl) rfl).trans ?_
  exact r_cv (dk D56 3 rfl) ow56 c7_121 mf49 (Nat.le_of_ble_eq_true rfl) rfl rfl (Nat.le_of_ble_eq_true rfl) (Nat.le_of_ble_eq_true rfl) ob_34
theorem E56_6 {d sl : Nat} {p : Nat → Nat} {I : Nat → Nat → Int32} {J : Nat → Nat → Int64} (l1 : Int32) (l2 : Int32) (s0 : Int32)  : ev (d + 1) 56 6 [.ref 34, .int l1, .int l2, .retAddr 0, .retAddr 0] [.int s0] (S sl p I J) = evK (d + 1) 56 9 [.ref 34, .int l1, .int l2, .retAddr 0, .retAddr 0] [] (den d 308 [.int s0] (S sl p I J)) := by
  exact r_cs (dk D56 4 rfl) ow56 pn7_124 c7_124 mf308 (Nat.le_of_ble_eq_true rfl) rfl rfl (Nat.le_of_ble_eq_true rfl) (Nat.le_of_ble_eq_true rfl)
theorem E56_9 {d sl : Nat} {p : Nat → Nat} {I : Nat → Nat → Int32} {J : Nat → Nat → Int64} (l1 : Int32) (l2 : Int32) (s0 : Int32)  : ev (d + 1) 56 9 [.ref 34, .int l1, .int l2, .retAddr 0, .retAddr 0] [.int s0] (S sl p I J) = evK (d + 1) 56 16 [.ref 34, .int l1, .int l2, .int s0, .retAddr 0] [] (den d 50 [.ref 34, .int l1, .int l2] (S sl p I J)) := by
  refine (r_isn (L' := [.ref 34, .int l1, .int l2, .int s0, .retAddr 0]) (dk D56 5 rfl) (Nat.le_of_ble_eq_true rfl) rfl).trans ?_
  refine (r_aln (dk D56 6 rfl) rfl).trans ?_
  refine (r_iln (dk D56 7 rfl) rfl).trans ?_
  refine (r_iln (dk D56 8 rfl) rfl).trans ?_
  exact r_cv (dk D56 9 rfl) ow56 c7_129 mf50 (Nat.le_of_ble_eq_true rfl) rfl rfl (Nat.le_of_ble_eq_true rfl) (Nat.le_of_ble_eq_true rfl) ob_34
theorem E56_16 {d sl : Nat} {p : Nat → Nat} {I : Nat → Nat → Int32} {J : Nat → Nat → Int64} (l1 : Int32) (l2 : Int32) (l3 : Int32) (s0 : Int32)  : ev (d + 1) 56 16 [.ref 34, .int l1, .int l2, .int l3, .retAddr 0] [.int s0] (S sl p I J) = evK (d + 1) 56 19 [.ref 34, .int l1, .int l2, .int l3, .retAddr 0] [] (den d 308 [.int s0] (S sl p I J)) := by
  exact r_cs (dk D56 10 rfl) ow56 pn7_124 c7_124 mf308 (Nat.le_of_ble_eq_true rfl) rfl rfl (Nat.le_of_ble_eq_true rfl) (Nat.le_of_ble_eq_true rfl)
theorem E56_19 {d sl : Nat} {p : Nat → Nat} {I : Nat → Nat → Int32} {J : Nat → Nat → Int64} (l1 : Int32) (l2 : Int32) (l3 : Int32) (s0 : Int32)  : ev (d + 1) 56 19 [.ref 34, .int l1, .int l2, .int l3, .retAddr 0] [.int s0] (S sl p I J) = evK (d + 1) 56 31 [.ref 34, .int l1, .int l2, .int l3, .int s0] [.int (l3 + s0)] (den d 54 [.ref 34, .int l1, .int l2] (S sl p I J)) := by
  refine (r_is (L' := [.ref 34, .int l1, .int l2, .int l3, .int s0]) (dk D56 11 rfl) (Nat.le_of_ble_eq_true rfl) rfl).trans ?_
  refine (r_iln (dk D56 12 rfl) rfl).trans ?_
  refine (r_il (dk D56 13 rfl) rfl).trans ?_
  refine (r_iadd (dk D56 14 rfl)).trans ?_
  refine (r_aln (dk D56 15 rfl) rfl).trans ?_
  refine (r_iln (dk D56 16 rfl) rfl).trans ?_
  refine (r_iln (dk D56 17 rfl) rfl).trans ?_
  exact r_cv (dk D56 18 rfl) ow56 c7_132 mf54 (Nat.le_of_ble_eq_true rfl) rfl rfl (Nat.le_of_ble_eq_true rfl) (Nat.le_of_ble_eq_true rfl) ob_34
theorem E56_31 {d sl : Nat} {p : Nat → Nat} {I : Nat → Nat → Int32} {J : Nat → Nat → Int64} (l1 : Int32) (l2 : Int32) (l3 : Int32) (l4 : Int32) (s0 : Int32) (s1 : Int32)  : ev d 56 31 [.ref 34, .int l1, .int l2, .int l3, .int l4] [.int s0, .int s1] (S sl p I J) = some (some (.int (s1 + s0)), (S sl p I J)) := by
  refine (r_iadd (dk D56 19 rfl)).trans ?_
  exact r_ret (dk D56 20 rfl) rt56
set_option maxRecDepth 20000 in
theorem D57 : dOK 57 [(0, .ldc2_w 135, 3), (3, .aload_n 0, 1), (4, .getfield 15, 3), (7, .aload_n 0, 1), (8, .getfield 40, 3), (11, .invokevirtual 108, 3), (14, .i2l, 1), (15, .lmul, 1), (16, .aload_n 0, 1), (17, .getfield 15, 3), (20, .iload_n 1, 1), (21, .invokevirtual 112, 3), (24, .i2l, 1), (25, .lmul, 1), (26, .lstore_n 2, 1), (27, .lload_n 2, 1), (28, .aload_n 0, 1), (29, .getfield 15, 3), (32, .aload_n 0, 1), (33, .getfield 40, 3), (36, .invokevirtual 112, 3), (39, .i2l, 1), (40, .aload_n 0, 1), (41, .getfield 15, 3), (44, .iload_n 1, 1), (45, .invokevirtual 108, 3), (48, .i2l, 1), (49, .lmul, 1), (50, .invokestatic 137, 3), (53, .l2i, 1), (54, .ireturn, 1)] = true := by decide +kernel
theorem E57_0 {d sl : Nat} {p : Nat → Nat} {I : Nat → Nat → Int32} {J : Nat → Nat → Int64} (a1 : Int32)  : den (d + 1) 57 [.ref 34, .int a1] (S sl p I J) = evK (d + 1) 57 14 [.ref 34, .int a1, .retAddr 0, .retAddr 0] [.long 100] (den d 26 [.ref 2, .int (I 34 7)] (S sl p I J)) := by
  refine (show den (d + 1) 57 [.ref 34, .int a1] (S sl p I J) = ev (d + 1) 57 0 [.ref 34, .int a1, .retAddr 0, .retAddr 0] [] (S sl p I J) from rfl).trans ?_
  refine (r_ld2 (dk D57 0 rfl) ow57 kk7_135).trans ?_
  refine (r_aln (dk D57 1 rfl) rfl).trans ?_
  refine (r_getR (dk D57 2 rfl) ow57 q7_15 ob_34 rfl).trans ?_
  refine (r_aln (dk D57 3 rfl) rfl).trans ?_
  refine (r_getI (dk D57 4 rfl) ow57 q7_40 ob_34).trans ?_
  exact r_cv (dk D57 5 rfl) ow57 c7_108 mf26 (Nat.le_of_ble_eq_true rfl) rfl rfl (Nat.le_of_ble_eq_true rfl) (Nat.le_of_ble_eq_true rfl) ob_2
theorem E57_14 {d sl : Nat} {p : Nat → Nat} {I : Nat → Nat → Int32} {J : Nat → Nat → Int64} (l1 : Int32) (s0 : Int32) (s1 : Int64)  : ev (d + 1) 57 14 [.ref 34, .int l1, .retAddr 0, .retAddr 0] [.int s0, .long s1] (S sl p I J) = evK (d + 1) 57 24 [.ref 34, .int l1, .retAddr 0, .retAddr 0] [.long (s1 * (Int32.toInt64 s0))] (den d 27 [.ref 2, .int l1] (S sl p I J)) := by
  refine (r_i2l (dk D57 6 rfl)).trans ?_
  refine (r_lmul (dk D57 7 rfl)).trans ?_
  refine (r_aln (dk D57 8 rfl) rfl).trans ?_
  refine (r_getR (dk D57 9 rfl) ow57 q7_15 ob_34 rfl).trans ?_
  refine (r_iln (dk D57 10 rfl) rfl).trans ?_
  exact r_cv (dk D57 11 rfl) ow57 c7_112 mf27 (Nat.le_of_ble_eq_true rfl) rfl rfl (Nat.le_of_ble_eq_true rfl) (Nat.le_of_ble_eq_true rfl) ob_2
theorem E57_24 {d sl : Nat} {p : Nat → Nat} {I : Nat → Nat → Int32} {J : Nat → Nat → Int64} (l1 : Int32) (s0 : Int32) (s1 : Int64)  : ev (d + 1) 57 24 [.ref 34, .int l1, .retAddr 0, .retAddr 0] [.int s0, .long s1] (S sl p I J) = evK (d + 1) 57 39 [.ref 34, .int l1, .long (s1 * (Int32.toInt64 s0)), .retAddr 0] [.long (s1 * (Int32.toInt64 s0))] (den d 27 [.ref 2, .int (I 34 7)] (S sl p I J)) := by
  refine (r_i2l (dk D57 12 rfl)).trans ?_
  refine (r_lmul (dk D57 13 rfl)).trans ?_
  refine (r_lsn (L' := [.ref 34, .int l1, .long (s1 * (Int32.toInt64 s0)), .retAddr 0]) (dk D57 14 rfl) (Nat.le_of_ble_eq_true rfl) rfl).trans ?_
  refine (r_lln (dk D57 15 rfl) rfl).trans ?_
  refine (r_aln (dk D57 16 rfl) rfl).trans ?_
  refine (r_getR (dk D57 17 rfl) ow57 q7_15 ob_34 rfl).trans ?_
  refine (r_aln (dk D57 18 rfl) rfl).trans ?_
  refine (r_getI (dk D57 19 rfl) ow57 q7_40 ob_34).trans ?_
  exact r_cv (dk D57 20 rfl) ow57 c7_112 mf27 (Nat.le_of_ble_eq_true rfl) rfl rfl (Nat.le_of_ble_eq_true rfl) (Nat.le_of_ble_eq_true rfl) ob_2
theorem E57_39 {d sl : Nat} {p : Nat → Nat} {I : Nat → Nat → Int32} {J : Nat → Nat → Int64} (l1 : Int32) (l2 : Int64) (s0 : Int32) (s1 : Int64)  : ev (d + 1) 57 39 [.ref 34, .int l1, .long l2, .retAddr 0] [.int s0, .long s1] (S sl p I J) = evK (d + 1) 57 48 [.ref 34, .int l1, .long l2, .retAddr 0] [.long (Int32.toInt64 s0), .long s1] (den d 26 [.ref 2, .int l1] (S sl p I J)) := by
  refine (r_i2l (dk D57 21 rfl)).trans ?_
  refine (r_aln (dk D57 22 rfl) rfl).trans ?_
  refine (r_getR (dk D57 23 rfl) ow57 q7_15 ob_34 rfl).trans ?_
  refine (r_iln (dk D57 24 rfl) rfl).trans ?_
  exact r_cv (dk D57 25 rfl) ow57 c7_108 mf26 (Nat.le_of_ble_eq_true rfl) rfl rfl (Nat.le_of_ble_eq_true rfl) (Nat.le_of_ble_eq_true rfl) ob_2
theorem E57_48 {d sl : Nat} {p : Nat → Nat} {I : Nat → Nat → Int32} {J : Nat → Nat → Int64} (l1 : Int32) (l2 : Int64) (s0 : Int32) (s1 : Int64) (s2 : Int64)  : ev (d + 1) 57 48 [.ref 34, .int l1, .long l2, .retAddr 0] [.int s0, .long s1, .long s2] (S sl p I J) = evK (d + 1) 57 53 [.ref 34, .int l1, .long l2, .retAddr 0] [] (den d 170 [.long s2, .long (s1 * (Int32.toInt64 s0))] (S sl p I J)) := by
  refine (r_i2l (dk D57 26 rfl)).trans ?_
  refine (r_lmul (dk D57 27 rfl)).trans ?_
  exact r_cs (dk D57 28 rfl) ow57 pn7_137 c7_137 mf170 (Nat.le_of_ble_eq_true rfl) rfl rfl (Nat.le_of_ble_eq_true rfl) (Nat.le_of_ble_eq_true rfl)
theorem E57_53 {d sl : Nat} {p : Nat → Nat} {I : Nat → Nat → Int32} {J : Nat → Nat → Int64} (l1 : Int32) (l2 : Int64) (s0 : Int64)  : ev d 57 53 [.ref 34, .int l1, .long l2, .retAddr 0] [.long s0] (S sl p I J) = some (some (.int (Int64.toInt32 s0)), (S sl p I J)) := by
  refine (r_l2i (dk D57 29 rfl)).trans ?_
  exact r_ret (dk D57 30 rfl) rt57
