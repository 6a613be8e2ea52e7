set_option maxRecDepth 20000 in
theorem D118 : dOK 118 [(0, .aload_n 0, 1), (1, .getfield 73, 3), (4, .ireturn, 1)] = true := by decide +kernel
theorem E118_0 {d sl : Nat} {p : Nat → Nat} {I : Nat → Nat → Int32} {J : Nat → Nat → Int64}   : den d 118 [.ref 1] (S sl p I J) = some (some (.int (I 1 8)), (S sl p I J)) := by
  refine (show den d 118 [.ref 1] (S sl p I J) = ev d 118 0 [.ref 1] [] (S sl p I J) from rfl).trans ?_
  refine (r_aln (dk D118 0 rfl) rfl).trans ?_
  refine (r_getI (dk D118 1 rfl) ow118 q11_73 ob_1).trans ?_
  exact r_ret (dk D118 2 rfl) rt118
set_option maxRecDepth 20000 in
theorem D119 : dOK 119 [(0, .iload_n 1, 1), (1, .iload_n 2, 1), (2, .iload_n 3, 1), (3, .invokestatic 77, 3), (6, .ifCond .ne 9, 3), (9, .aload_n 0, 1), (10, .iconst 1, 1), (11, .invokevirtual 81, 3), (14, .ireturn, 1), (15, .aload_n 0, 1), (16, .getfield 21, 3), (19, .getfield 85, 3), (22, .bipush 6, 2), (24, .if_icmp .lt 9, 3), (27, .aload_n 0, 1), (28, .iconst 3, 1), (29, .invokevirtual 81, 3), (32, .ireturn, 1), (33, .aload_n 0, 1), (34, .aload_n 0, 1), (35, .getfield 21, 3), (38, .iload_n 1, 1), (39, .iload_n 2, 1), (40, .iload_n 3, 1), (41, .invokevirtual 88, 3), (44, .invokevirtual 92, 3), (47, .ireturn, 1)] = true := by decide +kernel
theorem E119_0 {d sl : Nat} {p : Nat → Nat} {I : Nat → Nat → Int32} {J : Nat → Nat → Int64} (a1 : Int32) (a2 : Int32) (a3 : Int32)  : den (d + 1) 119 [.ref 1, .int a1, .int a2, .int a3] (S sl p I J) = evK (d + 1) 119 6 [.ref 1, .int a1, .int a2, .int a3] [] (den d 169 [.int a1, .int a2, .int a3] (S sl p I J)) := by
  refine (show den (d + 1) 119 [.ref 1, .int a1, .int a2, .int a3] (S sl p I J) = ev (d + 1) 119 0 [.ref 1, .int a1, .int a2, .int a3] [] (S sl p I J) from rfl).trans ?_
  refine (r_iln (dk D119 0 rfl) rfl).trans ?_
  refine (r_iln (dk D119 1 rfl) rfl).trans ?_
  refine (r_iln (dk D119 2 rfl) rfl).trans ?_
  exact r_cs (dk D119 3 rfl) ow119 pn11_77 c11_77 mf169 (Nat.le_of_ble_eq_true rfl) rfl rfl (Nat.le_of_ble_eq_true rfl) (Nat.le_of_ble_eq_true rfl)
theorem E119_6 {d sl : Nat} {p : Nat → Nat} {I : Nat → Nat → Int32} {J : Nat → Nat → Int64} (l1 : Int32) (l2 : Int32) (l3 : Int32) (s0 : Int32)  : ev (d + 1) 119 6 [.ref 1, .int l1, .int l2, .int l3] [.int s0] (S sl p I J) = (if s0 = 0 then evK (d + 1) 119 14 [.ref 1, .int l1, .int l2, .int l3] [] (den d 164 [.ref 1, .int 1] (S sl p I J)) else (if (I 4 7) < 6 then evK (d + 1) 119 44 [.ref 1, .int l1, .int l2, .int l3] [.ref 1] (den d 61 [.ref 4, .int l1, .int l2, .int l3] (S sl p I J)) else evK (d + 1) 119 32 [.ref 1, .int l1, .int l2, .int l3] [] (den d 164 [.ref 1, .int 3] (S sl p I J)))) := by
  refine (r_ne0 (dk D119 4 rfl) rfl).trans (ite2 ?_ ?_)
  · refine (r_aln (dk D119 5 rfl) rfl).trans ?_
    refine (r_ic (dk D119 6 rfl) ci1).trans ?_
    exact r_cv (dk D119 7 rfl) ow119 c11_81 mf164 (Nat.le_of_ble_eq_true rfl) rfl rfl (Nat.le_of_ble_eq_true rfl) (Nat.le_of_ble_eq_true rfl) ob_1
  · refine (r_aln (dk D119 9 rfl) rfl).trans ?_
    refine (r_getR (dk D119 10 rfl) ow119 q11_21 ob_1 rfl).trans ?_
    refine (r_getI (dk D119 11 rfl) ow119 q11_85 ob_4).trans ?_
    refine (r_bp (dk D119 12 rfl) cb6).trans ?_
    refine (r_lt (dk D119 13 rfl) rfl).trans (ite2 ?_ ?_)
    · refine (r_aln (dk D119 18 rfl) rfl).trans ?_
      refine (r_aln (dk D119 19 rfl) rfl).trans ?_
      refine (r_getR (dk D119 20 rfl) ow119 q11_21 ob_1 rfl).trans ?_
      refine (r_iln (dk D119 21 rfl) rfl).trans ?_
      refine (r_iln (dk D119 22 rfl) rfl).trans ?_
      refine (r_iln (dk D119 23 rfl) rfl).trans ?_
      exact r_cv (dk D119 24 rfl) ow119 c11_88 mf61 (Nat.le_of_ble_eq_true rfl) rfl rfl (Nat.le_of_ble_eq_true rfl) (Nat.le_of_ble_eq_true rfl) ob_4
    · refine (r_aln (dk D119 14 rfl) rfl).trans ?_
      refine (r_ic (dk D119 15 rfl) ci3).trans ?_
      exact r_cv (dk D119 16 rfl) ow119 c11_81 mf164 (Nat.le_of_ble_eq_true rfl) rfl rfl (Nat.le_of_ble_eq_true rfl) (Nat.le_of_ble_eq_true rfl) ob_1
theorem E119_14 {d sl : Nat} {p : Nat → Nat} {I : Nat → Nat → Int32} {J : Nat → Nat → Int64} (l1 : Int32) (l2 : Int32) (l3 : Int32) (s0 : Int32)  : ev d 119 14 [.ref 1, .int l1, .int l2, .int l3] [.int s0] (S sl p I J) = some (some (.int s0), (S sl p I J)) := by
  exact r_ret (dk D119 8 rfl) rt119
theorem E119_32 {d sl : Nat} {p : Nat → Nat} {I : Nat → Nat → Int32} {J : Nat → Nat → Int64} (l1 : Int32) (l2 : Int32) (l3 : Int32) (s0 : Int32)  : ev d 119 32 [.ref 1, .int l1, .int l2, .int l3] [.int s0] (S sl p I J) = some (some (.int s0), (S sl p I J)) := by
  exact r_ret (dk D119 17 rfl) rt119
theorem E119_44 {d sl : Nat} {p : Nat → Nat} {I : Nat → Nat → Int32} {J : Nat → Nat → Int64} (l1 : Int32) (l2 : Int32) (l3 : Int32) (s0 : Int32)  : ev (d + 1) 119 44 [.ref 1, .int l1, .int l2, .int l3] [.int s0, .ref 1] (S sl p I J) = evK (d + 1) 119 47 [.ref 1, .int l1, .int l2, .int l3] [] (den d 163 [.ref 1, .int s0] (S sl p I J)) := by
  exact r_cv (dk D119 25 rfl) ow119 c11_92 mf163 (Nat.le_of_ble_eq_true rfl) rfl rfl (Nat.le_of_ble_eq_true rfl) (Nat.le_of_ble_eq_true rfl) ob_1
theorem E119_47 {d sl : Nat} {p : Nat → Nat} {I : Nat → Nat → Int32} {J : Nat → Nat → Int64} (l1 : Int32) (l2 : Int32) (l3 : Int32) (s0 : Int32)  : ev d 119 47 [.ref 1, .int l1, .int l2, .int l3] [.int s0] (S sl p I J) = some (some (.int s0), (S sl p I J)) := by
  exact r_ret (dk D119 26 rfl) rt119
set_option maxRecDepth 20000 in
theorem D120 : dOK 120 [(0, .iload_n 2, 1), (1, .iload_n 3, 1), (2, .invokestatic 95, 3), (5, .ifCond .eq 8, 3), (8, .iload 4, 2), (10, .ifCond .ge 9, 3), (13, .aload_n 0, 1), (14, .iconst 1, 1), (15, .invokevirtual 81, 3), (18, .ireturn, 1), (19, .aload_n 0, 1), (20, .getfield 21, 3), (23, .iload_n 1, 1), (24, .invokevirtual 99, 3), (27, .ifCond .ne 9, 3), (30, .aload_n 0, 1), (31, .iconst 2, 1), (32, .invokevirtual 81, 3), (35, .ireturn, 1), (36, .iload 4, 2), (38, .aload_n 0, 1), (39, .getfield 21, 3), (42, .getfield 103, 3), (45, .iload_n 1, 1), (46, .iaload, 1), (47, .if_icmp .le 9, 3), (50, .aload_n 0, 1), (51, .iconst 1, 1), (52, .invokevirtual 81, 3), (55, .ireturn, 1), (56, .aload_n 0, 1), (57, .getfield 21, 3), (60, .getfield 107, 3), (63, .bipush 60, 2), (65, .if_icmp .lt 9, 3), (68, .aload_n 0, 1), (69, .iconst 3, 1), (70, .invokevirtual 81, 3), (73, .ireturn, 1), (74, .aload_n 0, 1), (75, .aload_n 0, 1), (76, .getfield 21, 3), (79, .iload_n 1, 1), (80, .iload_n 2, 1), (81, .iload_n 3, 1), (82, .iload 4, 2), (84, .invokevirtual 110, 3), (87, .invokevirtual 92, 3), (90, .ireturn, 1)] = true := by decide +kernel
theorem E120_0 {d sl : Nat} {p : Nat → Nat} {I : Nat → Nat → Int32} {J : Nat → Nat → Int64} (a1 : Int32) (a2 : Int32) (a3 : Int32) (a4 : Int32)  : den (d + 1) 120 [.ref 1, .int a1, .int a2, .int a3, .int a4] (S sl p I J) = evK (d + 1) 120 5 [.ref 1, .int a1, .int a2, .int a3, .int a4] [] (den d 168 [.int a2, .int a3] (S sl p I J)) := by
  refine (show den (d + 1) 120 [.ref 1, .int a1, .int a2, .int a3, .int a4] (S sl p I J) = ev (d + 1) 120 0 [.ref 1, .int a1, .int a2, .int a3, .int a4] [] (S sl p I J) from rfl).trans ?_
  refine (r_iln (dk D120 0 rfl) rfl).trans ?_
  refine (r_iln (dk D120 1 rfl) rfl).trans ?_
  exact r_cs (dk D120 2 rfl) ow120 pn11_95 c11_95 mf168 (Nat.le_of_ble_eq_true rfl) rfl rfl (Nat.le_of_ble_eq_true rfl) (Nat.le_of_ble_eq_true rfl)
theorem E120_5 {d sl : Nat} {p : Nat → Nat} {I : Nat → Nat → Int32} {J : Nat → Nat → Int64} (l1 : Int32) (l2 : Int32) (l3 : Int32) (l4 : Int32) (s0 : Int32)  : ev (d + 1) 120 5 [.ref 1, .int l1, .int l2, .int l3, .int l4] [.int s0] (S sl p I J) = (if s0 = 0 then ev (d + 1) 120 13 [.ref 1, .int l1, .int l2, .int l3, .int l4] [] (S sl p I J) else (if l4 < 0 then ev (d + 1) 120 13 [.ref 1, .int l1, .int l2, .int l3, .int l4] [] (S sl p I J) else evK (d + 1) 120 27 [.ref 1, .int l1, .int l2, .int l3, .int l4] [] (den d 59 [.ref 4, .int l1] (S sl p I J)))) := by
  refine (r_eq0 (dk D120 3 rfl) rfl).trans (ite2 ?_ ?_)
  · exact rfl
  · refine (r_il (dk D120 4 rfl) rfl).trans ?_
    refine (r_ge0 (dk D120 5 rfl) rfl).trans (ite2 ?_ ?_)
    · exact rfl
    · refine (r_aln (dk D120 10 rfl) rfl).trans ?_
      refine (r_getR (dk D120 11 rfl) ow120 q11_21 ob_1 rfl).trans ?_
      refine (r_iln (dk D120 12 rfl) rfl).trans ?_
      exact r_cv (dk D120 13 rfl) ow120 c11_99 mf59 (Nat.le_of_ble_eq_true rfl) rfl rfl (Nat.le_of_ble_eq_true rfl) (Nat.le_of_ble_eq_true rfl) ob_4
theorem E120_13 {d sl : Nat} {p : Nat → Nat} {I : Nat → Nat → Int32} {J : Nat → Nat → Int64} (l1 : Int32) (l2 : Int32) (l3 : Int32) (l4 : Int32)  : ev (d + 1) 120 13 [.ref 1, .int l1, .int l2, .int l3, .int l4] [] (S sl p I J) = evK (d + 1) 120 18 [.ref 1, .int l1, .int l2, .int l3, .int l4] [] (den d 164 [.ref 1, .int 1] (S sl p I J)) := by
  refine (r_aln (dk D120 6 rfl) rfl).trans ?_
  refine (r_ic (dk D120 7 rfl) ci1).trans ?_
  exact r_cv (dk D120 8 rfl) ow120 c11_81 mf164 (Nat.le_of_ble_eq_true rfl) rfl rfl (Nat.le_of_ble_eq_true rfl) (Nat.le_of_ble_eq_true rfl) ob_1
theorem E120_18 {d sl : Nat} {p : Nat → Nat} {I : Nat → Nat → Int32} {J : Nat → Nat → Int64} (l1 : Int32) (l2 : Int32) (l3 : Int32) (l4 : Int32) (s0 : Int32)  : ev d 120 18 [.ref 1, .int l1, .int l2, .int l3, .int l4] [.int s0] (S sl p I J) = some (some (.int s0), (S sl p I J)) := by
  exact r_ret (dk D120 9 rfl) rt120
theorem E120_27 {d sl : Nat} {p : Nat → Nat} {I : Nat → Nat → Int32} {J : Nat → Nat → Int64} (l1 : Int32) (l2 : Int32) (l3 : Int32) (l4 : Int32) (s0 : Int32)  : ev (d + 1) 120 27 [.ref 1, .int l1, .int l2, .int l3, .int l4] [.int s0] (S sl p I J) = (if s0 = 0 then evK (d + 1) 120 35 [.ref 1, .int l1, .int l2, .int l3, .int l4] [] (den d 164 [.ref 1, .int 2] (S sl p I J)) else ck (ixb 6 l1) ((if l4 ≤ (I 7 (Int32.toNatClampNeg l1)) then (if (I 4 8) < 60 then evK (d + 1) 120 87 [.ref 1, .int l1, .int l2, .int l3, .int l4] [.ref 1] (den d 62 [.ref 4, .int l1, .int l2, .int l3, .int l4] (S sl p I J)) else evK (d + 1) 120 73 [.ref 1, .int l1, .int l2, .int l3, .int l4] [] (den d 164 [.ref 1, .int 3] (S sl p I J))) else evK (d + 1) 120 55 [.ref 1, .int l1, .int l2, .int l3, .int l4] [] (den d 164 [.ref 1, .int 1] (S sl p I J))))) := by
  refine (r_ne0 (dk D120 14 rfl) rfl).trans (ite2 ?_ ?_)
  · refine (r_aln (dk D120 15 rfl) rfl).trans ?_
    refine (r_ic (dk D120 16 rfl) ci2).trans ?_
    exact r_cv (dk D120 17 rfl) ow120 c11_81 mf164 (Nat.le_of_ble_eq_true rfl) rfl rfl (Nat.le_of_ble_eq_true rfl) (Nat.le_of_ble_eq_true rfl) ob_1
  · refine (r_il (dk D120 19 rfl) rfl).trans ?_
    refine (r_aln (dk D120 20 rfl) rfl).trans ?_
    refine (r_getR (dk D120 21 rfl) ow120 q11_21 ob_1 rfl).trans ?_
    refine (r_getR (dk D120 22 rfl) ow120 q11_103 ob_4 rfl).trans ?_
    refine (r_iln (dk D120 23 rfl) rfl).trans ?_
    refine (r_ild (dk D120 24 rfl) ar_7).trans (ck3 fun g1 => ?_)
    refine (r_le (dk D120 25 rfl) rfl).trans (ite2 ?_ ?_)
    · refine (r_aln (dk D120 30 rfl) rfl).trans ?_
      refine (r_getR (dk D120 31 rfl) ow120 q11_21 ob_1 rfl).trans ?_
      refine (r_getI (dk D120 32 rfl) ow120 q11_107 ob_4).trans ?_
      refine (r_bp (dk D120 33 rfl) cb60).trans ?_
      refine (r_lt (dk D120 34 rfl) rfl).trans (ite2 ?_ ?_)
      · refine (r_aln (dk D120 39 rfl) rfl).trans ?_
        refine (r_aln (dk D120 40 rfl) rfl).trans ?_
        refine (r_getR (dk D120 41 rfl) ow120 q11_21 ob_1 rfl).trans ?_
        refine (r_iln (dk D120 42 rfl) rfl).trans ?_
        refine (r_iln (dk D120 43 rfl) rfl).trans ?_
        refine (r_iln (dk D120 44 rfl) rfl).trans ?_
        refine (r_il (dk D120 45 rfl) rfl).trans ?_
        exact r_cv (dk D120 46 rfl) ow120 c11_110 mf62 (Nat.le_of_ble_eq_true rfl) rfl rfl (Nat.le_of_ble_eq_true rfl) (Nat.le_of_ble_eq_true rfl) ob_4
      · refine (r_aln (dk D120 35 rfl) rfl).trans ?_
        refine (r_ic (dk D120 36 rfl) ci3).trans ?_
        exact r_cv (dk D120 37 rfl) ow120 c11_81 mf164 (Nat.le_of_ble_eq_true rfl) rfl rfl (Nat.le_of_ble_eq_true rfl) (Nat.le_of_ble_eq_true rfl) ob_1
    · refine (r_aln (dk D120 26 rfl) rfl).trans ?_
      refine (r_ic (dk D120 27 rfl) ci1).trans ?_
      exact r_cv (dk D120 28 rfl) ow120 c11_81 mf164 (Nat.le_of_ble_eq_true rfl) rfl rfl (Nat.le_of_ble_eq_true rfl) (Nat.le_of_ble_eq_true rfl) ob_1
theorem E120_35 {d sl : Nat} {p : Nat → Nat} {I : Nat → Nat → Int32} {J : Nat → Nat → Int64} (l1 : Int32) (l2 : Int32) (l3 : Int32) (l4 : Int32) (s0 : Int32)  : ev d 120 35 [.ref 1, .int l1, .int l2, .int l3, .int l4] [.int s0] (S sl p I J) = some (some (.int s0), (S sl p I J)) := by
  exact r_ret (dk D120 18 rfl) rt120
theorem E120_55 {d sl : Nat} {p : Nat → Nat} {I : Nat → Nat → Int32} {J : Nat → Nat → Int64} (l1 : Int32) (l2 : Int32) (l3 : Int32) (l4 : Int32) (s0 : Int32)  : ev d 120 55 [.ref 1, .int l1, .int l2, .int l3, .int l4] [.int s0] (S sl p I J) = some (some (.int s0), (S sl p I J)) := by
  exact r_ret (dk D120 29 rfl) rt120
theorem E120_73 {d sl : Nat} {p : Nat → Nat} {I : Nat → Nat → Int32} {J : Nat → Nat → Int64} (l1 : Int32) (l2 : Int32) (l3 : Int32) (l4 : Int32) (s0 : Int32)  : ev d 120 73 [.ref 1, .int l1, .int l2, .int l3, .int l4] [.int s0] (S sl p I J) = some (some (.int s0), (S sl p I J)) := by
  exact r_ret (dk D120 38 rfl) rt120
theorem E120_87 {d sl : Nat} {p : Nat → Nat} {I : Nat → Nat → Int32} {J : Nat → Nat → Int64} (l1 : Int32) (l2 : Int32) (l3 : Int32) (l4 : Int32) (s0 : Int32)  : ev (d + 1) 120 87 [.ref 1, .int l1, .int l2, .int l3, .int l4] [.int s0, .ref 1] (S sl p I J) = evK (d + 1) 120 90 [.ref 1, .int l1, .int l2, .int l3, .int l4] [] (den d 163 [.ref 1, .int s0] (S sl p I J)) := by
  exact r_cv (dk D120 47 rfl) ow120 c11_92 mf163 (Nat.le_of_ble_eq_true rfl) rfl rfl (Nat.le_of_ble_eq_true rfl) (Nat.le_of_ble_eq_true rfl) ob_1
theorem E120_90 {d sl : Nat} {p : Nat → Nat} {I : Nat → Nat → Int32} {J : Nat → Nat → Int64} (l1 : Int32) (l2 : Int32) (l3 : Int32) (l4 : Int32) (s0 : Int32)  : ev d 120 90 [.ref 1, .int l1, .int l2, .int l3, .int l4] [.int s0] (S sl p I J) = some (some (.int s0), (S sl p I J)) := by
  exact r_ret (dk D120 48 rfl) rt120
set_option maxRecDepth 20000 in
theorem D121 : dOK 121 [(0, .aload_n 0, 1), (1, .getfield 21, 3), (4, .iload_n 1, 1), (5, .invokevirtual 114, 3), (8, .ifCond .ne 9, 3), (11, .aload_n 0, 1), (12, .iconst 2, 1), (13, .invokevirtual 81, 3), (16, .ireturn, 1), (17, .aload_n 0, 1), (18, .getfield 21, 3), (21, .iload_n 1, 1), (22, .invokevirtual 117, 3), (25, .aload_n 0, 1), (26, .aload_n 0, 1), (27, .getfield 21, 3), (30, .getfield 107, 3), (33, .invokevirtual 92, 3), (36, .ireturn, 1)] = true := by decide +kernel
theorem E121_0 {d sl : Nat} {p : Nat → Nat} {I : Nat → Nat → Int32} {J : Nat → Nat → Int64} (a1 : Int32)  : den (d + 1) 121 [.ref 1, .int a1] (S sl p I J) = evK (d + 1) 121 8 [.ref 1, .int a1] [] (den d 60 [.ref 4, .int a1] (S sl p I J)) := by
  refine (show den (d + 1) 121 [.ref 1, .int a1] (S sl p I J) = ev (d + 1) 121 0 [.ref 1, .int a1] [] (S sl p I J) from rfl).trans ?_
  refine (r_aln (dk D121 0 rfl) rfl).trans ?_
  refine (r_getR (dk D121 1 rfl) ow121 q11_21 ob_1 rfl).trans ?_
  refine (r_iln (dk D121 2 rfl) rfl).trans ?_
  exact r_cv (dk D121 3 rfl) ow121 c11_114 mf60 (Nat.le_of_ble_eq_true rfl) rfl rfl (Nat.le_of_ble_eq_true rfl) (Nat.le_of_ble_eq_true rfl) ob_4
theorem E121_8 {d sl : Nat} {p : Nat → Nat} {I : Nat → Nat → Int32} {J : Nat → Nat → Int64} (l1 : Int32) (s0 : Int32)  : ev (d + 1) 121 8 [.ref 1, .int l1] [.int s0] (S sl p I J) = (if s0 = 0 then evK (d + 1) 121 16 [.ref 1, .int l1] [] (den d 164 [.ref 1, .int 2] (S sl p I J)) else evK (d + 1) 121 25 [.ref 1, .int l1] [] (den d 63 [.ref 4, .int l1] (S sl p I J))) := by
  refine (r_ne0 (dk D121 4 rfl) rfl).trans (ite2 ?_ ?_)
  · refine (r_aln (dk D121 5 rfl) rfl).trans ?_
    refine (r_ic (dk D121 6 rfl) ci2).trans ?_
    exact r_cv (dk D121 7 rfl) ow121 c11_81 mf164 (Nat.le_of_ble_eq_true rfl) rfl rfl (Nat.le_of_ble_eq_true rfl) (Nat.le_of_ble_eq_true rfl) ob_1
  · refine (r_aln (dk D121 9 rfl) rfl).trans ?_
    refine (r_getR (dk D121 10 rfl) ow121 q11_21 ob_1 rfl).trans ?_
    refine (r_iln (dk D121 11 rfl) rfl).trans ?_
    exact r_cv (dk D121 12 rfl) ow121 c11_117 mf63 (Nat.le_of_ble_eq_true rfl) rfl rfl (Nat.le_of_ble_eq_true rfl) (Nat.le_of_ble_eq_true rfl) ob_4
theorem E121_16 {d sl : Nat} {p : Nat → Nat} {I : Nat → Nat → Int32} {J : Nat → Nat → Int64} (l1 : Int32) (s0 : Int32)  : ev d 121 16 [.ref 1, .int l1] [.int s0] (S sl p I J) = some (some (.int s0), (S sl p I J)) := by
  exact r_ret (dk D121 8 rfl) rt121
theorem E121_25 {d sl : Nat} {p : Nat → Nat} {I : Nat → Nat → Int32} {J : Nat → Nat → Int64} (l1 : Int32)  : ev (d + 1) 121 25 [.ref 1, .int l1] [] (S sl p I J) = evK (d + 1) 121 36 [.ref 1, .int l1] [] (den d 163 [.ref 1, .int (I 4 8)] (S sl p I J)) := by
  refine (r_aln (dk D121 13 rfl) rfl).trans ?_
  refine (r_aln (dk D121 14 rfl) rfl).trans ?_
  refine (r_getR (dk D121 15 rfl) ow121 q11_21 ob_1 rfl).trans ?_
  refine (r_getI (dk D121 16 rfl) ow121 q11_107 ob_4).trans ?_
  exact r_cv (dk D121 17 rfl) ow121 c11_92 mf163 (Nat.le_of_ble_eq_true rfl) rfl rfl (Nat.le_of_ble_eq_true rfl) (Nat.le_of_ble_eq_true rfl) ob_1
theorem E121_36 {d sl : Nat} {p : Nat → Nat} {I : Nat → Nat → Int32} {J : Nat → Nat → Int64} (l1 : Int32) (s0 : Int32)  : ev d 121 36 [.ref 1, .int l1] [.int s0] (S sl p I J) = some (some (.int s0), (S sl p I J)) := by
  exact r_ret (dk D121 18 rfl) rt121
set_option maxRecDepth 20000 in
theorem D122 : dOK 122 [(0, .iload_n 1, 1), (1, .iconst 1, 1), (2, .bipush 45, 2), (4, .invokestatic 121, 3), (7, .ifCond .eq 13, 3), (10, .iload_n 2, 1), (11, .iconst 2, 1), (12, .bipush 20, 2), (14, .invokestatic 121, 3), (17, .ifCond .ne 9, 3), (20, .aload_n 0, 1), (21, .iconst 1, 1), (22, .invokevirtual 81, 3), (25, .ireturn, 1), (26, .bipush 100, 2), (28, .aload_n 0, 1), (29, .getfield 30, 3), (32, .getfield 124, 3), (35, .imul, 1), (36, .aload_n 0, 1), (37, .getfield 30, 3), (40, .getfield 127, 3), (43, .iadd, 1), (44, .istore_n 3, 1), (45, .aload_n 0, 1), (46, .getfield 30, 3), (49, .iload_n 1, 1), (50, .iload_n 2, 1), (51, .invokevirtual 130, 3), (54, .aload_n 0, 1), (55, .iload_n 3, 1), (56, .invokevirtual 92, 3), (59, .ireturn, 1)] = true := by decide +kernel
theorem E122_0 {d sl : Nat} {p : Nat → Nat} {I : Nat → Nat → Int32} {J : Nat → Nat → Int64} (a1 : Int32) (a2 : Int32)  : den (d + 1) 122 [.ref 1, .int a1, .int a2] (S sl p I J) = evK (d + 1) 122 7 [.ref 1, .int a1, .int a2, .retAddr 0] [] (den d 167 [.int a1, .int 1, .int 45] (S sl p I J)) := by
  refine (show den (d + 1) 122 [.ref 1, .int a1, .int a2] (S sl p I J) = ev (d + 1) 122 0 [.ref 1, .int a1, .int a2, .retAddr 0] [] (S sl p I J) from rfl).trans ?_
  refine (r_iln (dk D122 0 rfl) rfl).trans ?_
  refine (r_ic (dk D122 1 rfl) ci1).trans ?_
  refine (r_bp (dk D122 2 rfl) cb45).trans ?_
  exact r_cs (dk D122 3 rfl) ow122 pn11_121 c11_121 mf167 (Nat.le_of_ble_eq_true rfl) rfl rfl (Nat.le_of_ble_eq_true rfl) (Nat.le_of_ble_eq_true rfl)
theorem E122_7 {d sl : Nat} {p : Nat → Nat} {I : Nat → Nat → Int32} {J : Nat → Nat → Int64} (l1 : Int32) (l2 : Int32) (s0 : Int32)  : ev (d + 1) 122 7 [.ref 1, .int l1, .int l2, .retAddr 0] [.int s0] (S sl p I J) = (if s0 = 0 then ev (d + 1) 122 20 [.ref 1, .int l1, .int l2, .retAddr 0] [] (S sl p I J) else evK (d + 1) 122 17 [.ref 1, .int l1, .int l2, .retAddr 0] [] (den d 167 [.int l2, .int 2, .int 20] (S sl p I J))) := by
  refine (r_eq0 (dk D122 4 rfl) rfl).trans (ite2 ?_ ?_)
  · exact rfl
  · refine (r_iln (dk D122 5 rfl) rfl).trans ?_
    refine (r_ic (dk D122 6 rfl) ci2).trans ?_
    refine (r_bp (dk D122 7 rfl) cb20).trans ?_
    exact r_cs (dk D122 8 rfl) ow122 pn11_121 c11_121 mf167 (Nat.le_of_ble_eq_true rfl) rfl rfl (Nat.le_of_ble_eq_true rfl) (Nat.le_of_ble_eq_true rfl)
theorem E122_17 {d sl : Nat} {p : Nat → Nat} {I : Nat → Nat → Int32} {J : Nat → Nat → Int64} (l1 : Int32) (l2 : Int32) (s0 : Int32)  : ev (d + 1) 122 17 [.ref 1, .int l1, .int l2, .retAddr 0] [.int s0] (S sl p I J) = (if s0 = 0 then ev (d + 1) 122 20 [.ref 1, .int l1, .int l2, .retAddr 0] [] (S sl p I J) else evK (d + 1) 122 54 [.ref 1, .int l1, .int l2, .int ((100 * (I 11 12)) + (I 11 13))] [] (den d 87 [.ref 11, .int l1, .int l2] (S sl p I J))) := by
  refine (r_ne0 (dk D122 9 rfl) rfl).trans (ite2 ?_ ?_)
  · exact rfl
  · refine (r_bp (dk D122 14 rfl) cb100).trans ?_
    refine (r_aln (dk D122 15 rfl) rfl).trans ?_
    refine (r_getR (dk D122 16 rfl) ow122 q11_30 ob_1 rfl).trans ?_
    refine (r_getI (dk D122 17 rfl) ow122 q11_124 ob_11).trans ?_
    refine (r_imul (dk D122 18 rfl)).trans ?_
    refine (r_aln (dk D122 19 rfl) rfl).trans ?_
    refine (r_getR (dk D122 20 rfl) ow122 q11_30 ob_1 rfl).trans ?_
    refine (r_getI (dk D122 21 rfl) ow122 q11_127 ob_11).trans ?_
    refine (r_iadd (dk D122 22 rfl)).trans ?_
    refine (r_isn (L' := [.ref 1, .int l1, .int l2, .int ((100 * (I 11 12)) + (I 11 13))]) (dk D122 23 rfl) (Nat.le_of_ble_eq_true rfl) rfl).trans ?_
    refine (r_aln (dk D122 24 rfl) rfl).trans ?_
    refine (r_getR (dk D122 25 rfl) ow122 q11_30 ob_1 rfl).trans ?_
    refine (r_iln (dk D122 26 rfl) rfl).trans ?_
    refine (r_iln (dk D122 27 rfl) rfl).trans ?_
    exact r_cv (dk D122 28 rfl) ow122 c11_130 mf87 (Nat.le_of_ble_eq_true rfl) rfl rfl (Nat.le_of_ble_eq_true rfl) (Nat.le_of_ble_eq_true rfl) ob_11
theorem E122_20 {d sl : Nat} {p : Nat → Nat} {I : Nat → Nat → Int32} {J : Nat → Nat → Int64} (l1 : Int32) (l2 : Int32)  : ev (d + 1) 122 20 [.ref 1, .int l1, .int l2, .retAddr 0] [] (S sl p I J) = evK (d + 1) 122 25 [.ref 1, .int l1, .int l2, .retAddr 0] [] (den d 164 [.ref 1, .int 1] (S sl p I J)) := by
  refine (r_aln (dk D122 10 rfl) rfl).trans ?_
  refine (r_ic (dk D122 11 rfl) ci1).trans ?_
  exact r_cv (dk D122 12 rfl) ow122 c11_81 mf164 (Nat.le_of_ble_eq_true rfl) rfl rfl (Nat.le_of_ble_eq_true rfl) (Nat.le_of_ble_eq_true rfl) ob_1
theorem E122_25 {d sl : Nat} {p : Nat → Nat} {I : Nat → Nat → Int32} {J : Nat → Nat → Int64} (l1 : Int32) (l2 : Int32) (s0 : Int32)  : ev d 122 25 [.ref 1, .int l1, .int l2, .retAddr 0] [.int s0] (S sl p I J) = some (some (.int s0), (S sl p I J)) := by
  exact r_ret (dk D122 13 rfl) rt122
theorem E122_54 {d sl : Nat} {p : Nat → Nat} {I : Nat → Nat → Int32} {J : Nat → Nat → Int64} (l1 : Int32) (l2 : Int32) (l3 : Int32)  : ev (d + 1) 122 54 [.ref 1, .int l1, .int l2, .int l3] [] (S sl p I J) = evK (d + 1) 122 59 [.ref 1, .int l1, .int l2, .int l3] [] (den d 163 [.ref 1, .int l3] (S sl p I J)) := by
  refine (r_aln (dk D122 29 rfl) rfl).trans ?_
  refine (r_iln (dk D122 30 rfl) rfl).trans ?_
  exact r_cv (dk D122 31 rfl) ow122 c11_92 mf163 (Nat.le_of_ble_eq_true rfl) rfl rfl (Nat.le_of_ble_eq_true rfl) (Nat.le_of_ble_eq_true rfl) ob_1
theorem E122_59 {d sl : Nat} {p : Nat → Nat} {I : Nat → Nat → Int32} {J : Nat → Nat → Int64} (l1 : Int32) (l2 : Int32) (l3 : Int32) (s0 : Int32)  : ev d 122 59 [.ref 1, .int l1, .int l2, .int l3] [.int s0] (S sl p I J) = some (some (.int s0), (S sl p I J)) := by
  exact r_ret (dk D122 32 rfl) rt122
set_option maxRecDepth 20000 in
theorem D123 : dOK 123 [(0, .iload_n 1, 1), (1, .iconst 1, 1), (2, .bipush 20, 2), (4, .invokestatic 121, 3), (7, .ifCond .ne 9, 3), (10, .aload_n 0, 1), (11, .iconst 1, 1), (12, .invokevirtual 81, 3), (15, .ireturn, 1), (16, .aload_n 0, 1), (17, .getfield 21, 3), (20, .getfield 134, 3), (23, .istore_n 2, 1), (24, .aload_n 0, 1), (25, .getfield 21, 3), (28, .iload_n 1, 1), (29, .invokevirtual 137, 3), (32, .aload_n 0, 1), (33, .iload_n 2, 1), (34, .invokevirtual 92, 3), (37, .ireturn, 1)] = true := by decide +kernel
theorem E123_0 {d sl : Nat} {p : Nat → Nat} {I : Nat → Nat → Int32} {J : Nat → Nat → Int64} (a1 : Int32)  : den (d + 1) 123 [.ref 1, .int a1] (S sl p I J) = evK (d + 1) 123 7 [.ref 1, .int a1, .retAddr 0] [] (den d 167 [.int a1, .int 1, .int 20] (S sl p I J)) := by
  refine (show den (d + 1) 123 [.ref 1, .int a1] (S sl p I J) = ev (d + 1) 123 0 [.ref 1, .int a1, .retAddr 0] [] (S sl p I J) from rfl).trans ?_
  refine (r_iln (dk D123 0 rfl) rfl).trans ?_
  refine (r_ic (dk D123 1 rfl) ci1).trans ?_
  refine (r_bp (dk D123 2 rfl) cb20).trans ?_
  exact r_cs (dk D123 3 rfl) ow123 pn11_121 c11_121 mf167 (Nat.le_of_ble_eq_true rfl) rfl rfl (Nat.le_of_ble_eq_true rfl) (Nat.le_of_ble_eq_true rfl)
theorem E123_7 {d sl : Nat} {p : Nat → Nat} {I : Nat → Nat → Int32} {J : Nat → Nat → Int64} (l1 : Int32) (s0 : Int32)  : ev (d + 1) 123 7 [.ref 1, .int l1, .retAddr 0] [.int s0] (S sl p I J) = (if s0 = 0 then evK (d + 1) 123 15 [.ref 1, .int l1, .retAddr 0] [] (den d 164 [.ref 1, .int 1] (S sl p I J)) else evK (d + 1) 123 32 [.ref 1, .int l1, .int (I 4 9)] [] (den d 64 [.ref 4, .int l1] (S sl p I J))) := by
  refine (r_ne0 (dk D123 4 rfl) rfl).trans (ite2 ?_ ?_)
  · refine (r_aln (dk D123 5 rfl) rfl).trans ?_
    refine (r_ic (dk D123 6 rfl) ci1).trans ?_
    exact r_cv (dk D123 7 rfl) ow123 c11_81 mf164 (Nat.le_of_ble_eq_true rfl) rfl rfl (Nat.le_of_ble_eq_true rfl) (Nat.le_of_ble_eq_true rfl) ob_1
  · refine (r_aln (dk D123 9 rfl) rfl).trans ?_
    refine (r_getR (dk D123 10 rfl) ow123 q11_21 ob_1 rfl).trans ?_
    refine (r_getI (dk D123 11 rfl) ow123 q11_134 ob_4).trans ?_
    refine (r_isn (L' := [.ref 1, .int l1, .int (I 4 9)]) (dk D123 12 rfl) (Nat.le_of_ble_eq_true rfl) rfl).trans ?_
    refine (r_aln (dk D123 13 rfl) rfl).trans ?_
    refine (r_getR (dk D123 14 rfl) ow123 q11_21 ob_1 rfl).trans ?_
    refine (r_iln (dk D123 15 rfl) rfl).trans ?_
    exact r_cv (dk D123 16 rfl) ow123 c11_137 mf64 (Nat.le_of_ble_eq_true rfl) rfl rfl (Nat.le_of_ble_eq_true rfl) (Nat.le_of_ble_eq_true rfl) ob_4
theorem E123_15 {d sl : Nat} {p : Nat → Nat} {I : Nat → Nat → Int32} {J : Nat → Nat → Int64} (l1 : Int32) (s0 : Int32)  : ev d 123 15 [.ref 1, .int l1, .retAddr 0] [.int s0] (S sl p I J) = some (some (.int s0), (S sl p I J)) := by
  exact r_ret (dk D123 8 rfl) rt123
theorem E123_32 {d sl : Nat} {p : Nat → Nat} {I : Nat → Nat → Int32} {J : Nat → Nat → Int64} (l1 : Int32) (l2 : Int32)  : ev (d + 1) 123 32 [.ref 1, .int l1, .int l2] [] (S sl p I J) = evK (d + 1) 123 37 [.ref 1, .int l1, .int l2] [] (den d 163 [.ref 1, .int l2] (S sl p I J)) := by
  refine (r_aln (dk D123 17 rfl) rfl).trans ?_
  refine (r_iln (dk D123 18 rfl) rfl).trans ?_
  exact r_cv (dk D123 19 rfl) ow123 c11_92 mf163 (Nat.le_of_ble_eq_true rfl) rfl rfl (Nat.le_of_ble_eq_true rfl) (Nat.le_of_ble_eq_true rfl) ob_1
theorem E123_37 {d sl : Nat} {p : Nat → Nat} {I : Nat → Nat → Int32} {J : Nat → Nat → Int64} (l1 : Int32) (l2 : Int32) (s0 : Int32)  : ev d 123 37 [.ref 1, .int l1, .int l2] [.int s0] (S sl p I J) = some (some (.int s0), (S sl p I J)) := by
  exact r_ret (dk D123 20 rfl) rt123
set_option maxRecDepth 20000 in
theorem D124 : dOK 124 [(0, .iload_n 1, 1), (1, .iconst 0, 1), (2, .sipush 359, 3), (5, .invokestatic 121, 3), (8, .ifCond .eq 13, 3), (11, .iload_n 2, 1), (12, .iconst 1, 1), (13, .bipush 90, 2), (15, .invokestatic 121, 3), (18, .ifCond .ne 9, 3), (21, .aload_n 0, 1), (22, .iconst 1, 1), (23, .invokevirtual 81, 3), (26, .ireturn, 1), (27, .iload_n 3, 1), (28, .iconst 0, 1), (29, .bipush 89, 2), (31, .invokestatic 121, 3), (34, .ifCond .eq 14, 3), (37, .iload 4, 2), (39, .iconst 0, 1), (40, .bipush 45, 2), (42, .invokestatic 121, 3), (45, .ifCond .ne 9, 3), (48, .aload_n 0, 1), (49, .iconst 1, 1), (50, .invokevirtual 81, 3), (53, .ireturn, 1), (54, .aload_n 0, 1), (55, .getfield 55, 3), (58, .iload_n 1, 1), (59, .iload_n 2, 1), (60, .iload_n 3, 1), (61, .iload 4, 2), (63, .invokevirtual 140, 3), (66, .aload_n 0, 1), (67, .getfield 30, 3), (70, .invokevirtual 144, 3), (73, .aload_n 0, 1), (74, .aload_n 0, 1), (75, .getfield 55, 3), (78, .iload_n 1, 1), (79, .iload_n 2, 1), (80, .invokevirtual 147, 3), (83, .invokestatic 151, 3), (86, .invokevirtual 92, 3), (89, .ireturn, 1)] = true := by decide +kernel
theorem E124_0 {d sl : Nat} {p : Nat → Nat} {I : Nat → Nat → Int32} {J : Nat → Nat → Int64} (a1 : Int32) (a2 : Int32) (a3 : Int32) (a4 : Int32)  : den (d + 1) 124 [.ref 1, .int a1, .int a2, .int a3, .int a4] (S sl p I J) = evK (d + 1) 124 8 [.ref 1, .int a1, .int a2, .int a3, .int a4] [] (den d 167 [.int a1, .int 0, .int 359] (S sl p I J)) := by
  refine (show den (d + 1) 124 [.ref 1, .int a1, .int a2, .int a3, .int a4] (S sl p I J) = ev (d + 1) 124 0 [.ref 1, .int a1, .int a2, .int a3, .int a4] [] (S sl p I J) from rfl).trans ?_
  refine (r_iln (dk D124 0 rfl) rfl).trans ?_
  refine (r_ic (dk D124 1 rfl) ci0).trans ?_
  refine (r_sp (dk D124 2 rfl) cs359).trans ?_
  exact r_cs (dk D124 3 rfl) ow124 pn11_121 c11_121 mf167 (Nat.le_of_ble_eq_true rfl) rfl rfl (Nat.le_of_ble_eq_true rfl) (Nat.le_of_ble_eq_true rfl)
theorem E124_8 {d sl : Nat} {p : Nat → Nat} {I : Nat → Nat → Int32} {J : Nat → Nat → Int64} (l1 : Int32) (l2 : Int32) (l3 : Int32) (l4 : Int32) (s0 : Int32)  : ev (d + 1) 124 8 [.ref 1, .int l1, .int l2, .int l3, .int l4] [.int s0] (S sl p I J) = (if s0 = 0 then ev (d + 1) 124 21 [.ref 1, .int l1, .int l2, .int l3, .int l4] [] (S sl p I J) else evK (d + 1) 124 18 [.ref 1, .int l1, .int l2, .int l3, .int l4] [] (den d 167 [.int l2, .int 1, .int 90] (S sl p I J))) := by
  refine (r_eq0 (dk D124 4 rfl) rfl).trans (ite2 ?_ ?_)
  · exact rfl
  · refine (r_iln (dk D124 5 rfl) rfl).trans ?_
    refine (r_ic (dk D124 6 rfl) ci1).trans ?_
    refine (r_bp (dk D124 7 rfl) cb90).trans ?_
    exact r_cs (dk D124 8 rfl) ow124 pn11_121 c11_121 mf167 (Nat.le_of_ble_eq_true rfl) rfl rfl (Nat.le_of_ble_eq_true rfl) (Nat.le_of_ble_eq_true rfl)
theorem E124_18 {d sl : Nat} {p : Nat → Nat} {I : Nat → Nat → Int32} {J : Nat → Nat → Int64} (l1 : Int32) (l2 : Int32) (l3 : Int32) (l4 : Int32) (s0 : Int32)  : ev (d + 1) 124 18 [.ref 1, .int l1, .int l2, .int l3, .int l4] [.int s0] (S sl p I J) = (if s0 = 0 then ev (d + 1) 124 21 [.ref 1, .int l1, .int l2, .int l3, .int l4] [] (S sl p I J) else evK (d + 1) 124 34 [.ref 1, .int l1, .int l2, .int l3, .int l4] [] (den d 167 [.int l3, .int 0, .int 89] (S sl p I J))) := by
  refine (r_ne0 (dk D124 9 rfl) rfl).trans (ite2 ?_ ?_)
  · exact rfl
  · refine (r_iln (dk D124 14 rfl) rfl).trans ?_
    refine (r_ic (dk D124 15 rfl) ci0).trans ?_
    refine (r_bp (dk D124 16 rfl) cb89).trans ?_
    exact r_cs (dk D124 17 rfl) ow124 pn11_121 c11_121 mf167 (Nat.le_of_ble_eq_true rfl) rfl rfl (Nat.le_of_ble_eq_true rfl) (Nat.le_of_ble_eq_true rfl)
theorem E124_21 {d sl : Nat} {p : Nat → Nat} {I : Nat → Nat → Int32} {J : Nat → Nat → Int64} (l1 : Int32) (l2 : Int32) (l3 : Int32) (l4 : Int32)  : ev (d + 1) 124 21 [.ref 1, .int l1, .int l2, .int l3, .int l4] [] (S sl p I J) = evK (d + 1) 124 26 [.ref 1, .int l1, .int l2, .int l3, .int l4] [] (den d 164 [.ref 1, .int 1] (S sl p I J)) := by
  refine (r_aln (dk D124 10 rfl) rfl).trans ?_
  refine (r_ic (dk D124 11 rfl) ci1).trans ?_
  exact r_cv (dk D124 12 rfl) ow124 c11_81 mf164 (Nat.le_of_ble_eq_true rfl) rfl rfl (Nat.le_of_ble_eq_true rfl) (Nat.le_of_ble_eq_true rfl) ob_1
theorem E124_26 {d sl : Nat} {p : Nat → Nat} {I : Nat → Nat → Int32} {J : Nat → Nat → Int64} (l1 : Int32) (l2 : Int32) (l3 : Int32) (l4 : Int32) (s0 : Int32)  : ev d 124 26 [.ref 1, .int l1, .int l2, .int l3, .int l4] [.int s0] (S sl p I J) = some (some (.int s0), (S sl p I J)) := by
  exact r_ret (dk D124 13 rfl) rt124
theorem E124_34 {d sl : Nat} {p : Nat → Nat} {I : Nat → Nat → Int32} {J : Nat → Nat → Int64} (l1 : Int32) (l2 : Int32) (l3 : Int32) (l4 : Int32) (s0 : Int32)  : ev (d + 1) 124 34 [.ref 1, .int l1, .int l2, .int l3, .int l4] [.int s0] (S sl p I J) = (if s0 = 0 then ev (d + 1) 124 48 [.ref 1, .int l1, .int l2, .int l3, .int l4] [] (S sl p I J) else evK (d + 1) 124 45 [.ref 1, .int l1, .int l2, .int l3, .int l4] [] (den d 167 [.int l4, .int 0, .int 45] (S sl p I J))) := by
  refine (r_eq0 (dk D124 18 rfl) rfl).trans (ite2 ?_ ?_)
  · exact rfl
  · refine (r_il (dk D124 19 rfl) rfl).trans ?_
    refine (r_ic (dk D124 20 rfl) ci0).trans ?_
    refine (r_bp (dk D124 21 rfl) cb45).trans ?_
    exact r_cs (dk D124 22 rfl) ow124 pn11_121 c11_121 mf167 (Nat.le_of_ble_eq_true rfl) rfl rfl (Nat.le_of_ble_eq_true rfl) (Nat.le_of_ble_eq_true rfl)
theorem E124_45 {d sl : Nat} {p : Nat → Nat} {I : Nat → Nat → Int32} {J : Nat → Nat → Int64} (l1 : Int32) (l2 : Int32) (l3 : Int32) (l4 : Int32) (s0 : Int32)  : ev (d + 1) 124 45 [.ref 1, .int l1, .int l2, .int l3, .int l4] [.int s0] (S sl p I J) = (if s0 = 0 then ev (d + 1) 124 48 [.ref 1, .int l1, .int l2, .int l3, .int l4] [] (S sl p I J) else evK (d + 1) 124 66 [.ref 1, .int l1, .int l2, .int l3, .int l4] [] (den d 47 [.ref 34, .int l1, .int l2, .int l3, .int l4] (S sl p I J))) := by
  refine (r_ne0 (dk D124 23 rfl) rfl).trans (ite2 ?_ ?_)
  · exact rfl
  · refine (r_aln (dk D124 28 rfl) rfl).trans ?_
    refine (r_getR (dk D124 29 rfl) ow124 q11_55 ob_1 rfl).trans ?_
    refine (r_iln (dk D124 30 rfl) rfl).trans ?_
    refine (r_iln (dk D124 31 rfl) rfl).trans ?_
    refine (r_iln (dk D124 32 rfl) rfl).trans ?_
    refine (r_il (dk D124 33 rfl) rfl).trans ?_
    exact r_cv (dk D124 34 rfl) ow124 c11_140 mf47 (Nat.le_of_ble_eq_true rfl) rfl rfl (Nat.le_of_ble_eq_true rfl) (Nat.le_of_ble_eq_true rfl) ob_34
theorem E124_48 {d sl : Nat} {p : Nat → Nat} {I : Nat → Nat → Int32} {J : Nat → Nat → Int64} (l1 : Int32) (l2 : Int32) (l3 : Int32) (l4 : Int32)  : ev (d + 1) 124 48 [.ref 1, .int l1, .int l2, .int l3, .int l4] [] (S sl p I J) = evK (d + 1) 124 53 [.ref 1, .int l1, .int l2, .int l3, .int l4] [] (den d 164 [.ref 1, .int 1] (S sl p I J)) := by
  refine (r_aln (dk D124 24 rfl) rfl).trans ?_
  refine (r_ic (dk D124 25 rfl) ci1).trans ?_
  exact r_cv (dk D124 26 rfl) ow124 c11_81 mf164 (Nat.le_of_ble_eq_true rfl) rfl rfl (Nat.le_of_ble_eq_true rfl) (Nat.le_of_ble_eq_true rfl) ob_1
theorem E124_53 {d sl : Nat} {p : Nat → Nat} {I : Nat → Nat → Int32} {J : Nat → Nat → Int64} (l1 : Int32) (l2 : Int32) (l3 : Int32) (l4 : Int32) (s0 : Int32)  : ev d 124 53 [.ref 1, .int l1, .int l2, .int l3, .int l4] [.int s0] (S sl p I J) = some (some (.int s0), (S sl p I J)) := by
  exact r_ret (dk D124 27 rfl) rt124
theorem E124_66 {d sl : Nat} {p : Nat → Nat} {I : Nat → Nat → Int32} {J : Nat → Nat → Int64} (l1 : Int32) (l2 : Int32) (l3 : Int32) (l4 : Int32)  : ev (d + 1) 124 66 [.ref 1, .int l1, .int l2, .int l3, .int l4] [] (S sl p I J) = evK (d + 1) 124 73 [.ref 1, .int l1, .int l2, .int l3, .int l4] [] (den d 104 [.ref 11] (S sl p I J)) := by
  refine (r_aln (dk D124 35 rfl) rfl).trans ?_
  refine (r_getR (dk D124 36 rfl) ow124 q11_30 ob_1 rfl).trans ?_
  exact r_cv (dk D124 37 rfl) ow124 c11_144 mf104 (Nat.le_of_ble_eq_true rfl) rfl rfl (Nat.le_of_ble_eq_true rfl) (Nat.le_of_ble_eq_true rfl) ob_11
theorem E124_73 {d sl : Nat} {p : Nat → Nat} {I : Nat → Nat → Int32} {J : Nat → Nat → Int64} (l1 : Int32) (l2 : Int32) (l3 : Int32) (l4 : Int32)  : ev (d + 1) 124 73 [.ref 1, .int l1, .int l2, .int l3, .int l4] [] (S sl p I J) = evK (d + 1) 124 83 [.ref 1, .int l1, .int l2, .int l3, .int l4] [.ref 1] (den d 49 [.ref 34, .int l1, .int l2] (S sl p I J)) := by
  refine (r_aln (dk D124 38 rfl) rfl).trans ?_
  refine (r_aln (dk D124 39 rfl) rfl).trans ?_
  refine (r_getR (dk D124 40 rfl) ow124 q11_55 ob_1 rfl).trans ?_
  refine (r_iln (dk D124 41 rfl) rfl).trans ?_
  refine (r_iln (dk D124 42 rfl) rfl).trans ?_
  exact r_cv (dk D124 43 rfl) ow124 c11_147 mf49 (Nat.le_of_ble_eq_true rfl) rfl rfl (Nat.le_of_ble_eq_true rfl) (Nat.le_of_ble_eq_true rfl) ob_34
theorem E124_83 {d sl : Nat} {p : Nat → Nat} {I : Nat → Nat → Int32} {J : Nat → Nat → Int64} (l1 : Int32) (l2 : Int32) (l3 : Int32) (l4 : Int32) (s0 : Int32)  : ev (d + 1) 124 83 [.ref 1, .int l1, .int l2, .int l3, .int l4] [.int s0, .ref 1] (S sl p I J) = evK (d + 1) 124 86 [.ref 1, .int l1, .int l2, .int l3, .int l4] [.ref 1] (den d 308 [.int s0] (S sl p I J)) := by
  exact r_cs (dk D124 44 rfl) ow124 pn11_151 c11_151 mf308 (Nat.le_of_ble_eq_true rfl) rfl rfl (Nat.le_of_ble_eq_true rfl) (Nat.le_of_ble_eq_true rfl)
theorem E124_86 {d sl : Nat} {p : Nat → Nat} {I : Nat → Nat → Int32} {J : Nat → Nat → Int64} (l1 : Int32) (l2 : Int32) (l3 : Int32) (l4 : Int32) (s0 : Int32)  : ev (d + 1) 124 86 [.ref 1, .int l1, .int l2, .int l3, .int l4] [.int s0, .ref 1] (S sl p I J) = evK (d + 1) 124 89 [.ref 1, .int l1, .int l2, .int l3, .int l4] [] (den d 163 [.ref 1, .int s0] (S sl p I J)) := by
  exact r_cv (dk D124 45 rfl) ow124 c11_92 mf163 (Nat.le_of_ble_eq_true rfl) rfl rfl (Nat.le_of_ble_eq_true rfl) (Nat.le_of_ble_eq_true rfl) ob_1
theorem E124_89 {d sl : Nat} {p : Nat → Nat} {I : Nat → Nat → Int32} {J : Nat → Nat → Int64} (l1 : Int32) (l2 : Int32) (l3 : Int32) (l4 : Int32) (s0 : Int32)  : ev d 124 89 [.ref 1, .int l1, .int l2, .int l3, .int l4] [.int s0] (S sl p I J) = some (some (.int s0), (S sl p I J)) := by
  exact r_ret (dk D124 46 rfl) rt124
set_option maxRecDepth 20000 in
theorem D125 : dOK 125 [(0, .aload_n 0, 1), (1, .getfield 30, 3), (4, .invokevirtual 156, 3), (7, .iload_n 1, 1), (8, .tableswitch 96 0 4 #[36, 48, 60, 72, 84], 36), (44, .aload_n 0, 1), (45, .aload_n 0, 1), (46, .getfield 21, 3), (49, .getfield 85, 3), (52, .invokevirtual 92, 3), (55, .ireturn, 1), (56, .aload_n 0, 1), (57, .aload_n 0, 1), (58, .getfield 21, 3), (61, .getfield 107, 3), (64, .invokevirtual 92, 3), (67, .ireturn, 1), (68, .aload_n 0, 1), (69, .aload_n 0, 1), (70, .getfield 21, 3), (73, .invokevirtual 159, 3), (76, .invokevirtual 92, 3), (79, .ireturn, 1), (80, .aload_n 0, 1), (81, .aload_n 0, 1), (82, .getfield 30, 3), (85, .getfield 163, 3), (88, .invokevirtual 92, 3), (91, .ireturn, 1), (92, .aload_n 0, 1), (93, .aload_n 0, 1), (94, .getfield 30, 3), (97, .invokevirtual 166, 3), (100, .invokevirtual 92, 3), (103, .ireturn, 1), (104, .aload_n 0, 1), (105, .iconst 1, 1), (106, .invokevirtual 81, 3), (109, .ireturn, 1)] = true := by decide +kernel
theorem E125_0 {d sl : Nat} {p : Nat → Nat} {I : Nat → Nat → Int32} {J : Nat → Nat → Int64} (a1 : Int32)  : den (d + 1) 125 [.ref 1, .int a1] (S sl p I J) = evK (d + 1) 125 7 [.ref 1, .int a1] [] (den d 97 [.ref 11] (S sl p I J)) := by
  refine (show den (d + 1) 125 [.ref 1, .int a1] (S sl p I J) = ev (d + 1) 125 0 [.ref 1, .int a1] [] (S sl p I J) from rfl).trans ?_
  refine (r_aln (dk D125 0 rfl) rfl).trans ?_
  refine (r_getR (dk D125 1 rfl) ow125 q11_30 ob_1 rfl).trans ?_
  exact r_cv (dk D125 2 rfl) ow125 c11_156 mf97 (Nat.le_of_ble_eq_true rfl) rfl rfl (Nat.le_of_ble_eq_true rfl) (Nat.le_of_ble_eq_true rfl) ob_11
theorem E125_7 {d sl : Nat} {p : Nat → Nat} {I : Nat → Nat → Int32} {J : Nat → Nat → Int64} (l1 : Int32)  : ev (d + 1) 125 7 [.ref 1, .int l1] [] (S sl p I J) = (if l1 = 0 then evK (d + 1) 125 55 [.ref 1, .int l1] [] (den d 163 [.ref 1, .int (I 4 7)] (S sl p I J)) else (if l1 = 1 then evK (d + 1) 125 67 [.ref 1, .int l1] [] (den d 163 [.ref 1, .int (I 4 8)] (S sl p I J)) else (if l1 = 2 then evK (d + 1) 125 76 [.ref 1, .int l1] [.ref 1] (den d 69 [.ref 4] (S sl p I J)) else (if l1 = 3 then evK (d + 1) 125 91 [.ref 1, .int l1] [] (den d 163 [.ref 1, .int (I 11 14)] (S sl p I J)) else (if l1 = 4 then evK (d + 1) 125 100 [.ref 1, .int l1] [.ref 1] (den d 102 [.ref 11] (S sl p I J)) else evK (d + 1) 125 109 [.ref 1, .int l1] [] (den d 164 [.ref 1, .int 1] (S sl p I J))))))) := by
  refine (r_iln (dk D125 3 rfl) rfl).trans ?_
  by_cases hs0 : l1 = 0
  · rw [if_pos hs0]
    refine (r_sw (t := 44) (dk D125 4 rfl) (by rw [hs0]; rfl)).trans ?_
    refine (r_aln (dk D125 5 rfl) rfl).trans ?_
    refine (r_aln (dk D125 6 rfl) rfl).trans ?_
    refine (r_getR (dk D125 7 rfl) ow125 q11_21 ob_1 rfl).trans ?_
    refine (r_getI (dk D125 8 rfl) ow125 q11_85 ob_4).trans ?_
    exact r_cv (dk D125 9 rfl) ow125 c11_92 mf163 (Nat.le_of_ble_eq_true rfl) rfl rfl (Nat.le_of_ble_eq_true rfl) (Nat.le_of_ble_eq_true rfl) ob_1
  rw [if_neg hs0]
  by_cases hs1 : l1 = 1
  · rw [if_pos hs1]
    refine (r_sw (t := 56) (dk D125 4 rfl) (by rw [hs1]; rfl)).trans ?_
    refine (r_aln (dk D125 11 rfl) rfl).trans ?_
    refine (r_aln (dk D125 12 rfl) rfl).trans ?_
    refine (r_getR (dk D125 13 rfl) ow125 q11_21 ob_1 rfl).trans ?_
    refine (r_getI (dk D125 14 rfl) ow125 q11_107 ob_4).trans ?_
    exact r_cv (dk D125 15 rfl) ow125 c11_92 mf163 (Nat.le_of_ble_eq_true rfl) rfl rfl (Nat.le_of_ble_eq_true rfl) (Nat.le_of_ble_eq_true rfl) ob_1
  rw [if_neg hs1]
  by_cases hs2 : l1 = 2
  · rw [if_pos hs2]
    refine (r_sw (t := 68) (dk D125 4 rfl) (by rw [hs2]; rfl)).trans ?_
    refine (r_aln (dk D125 17 rfl) rfl).trans ?_
    refine (r_aln (dk D125 18 rfl) rfl).trans ?_
    refine (r_getR (dk D125 19 rfl) ow125 q11_21 ob_1 rfl).trans ?_
    exact r_cv (dk D125 20 rfl) ow125 c11_159 mf69 (Nat.le_of_ble_eq_true rfl) rfl rfl (Nat.le_of_ble_eq_true rfl) (Nat.le_of_ble_eq_true rfl) ob_4
  rw [if_neg hs2]
  by_cases hs3 : l1 = 3
  · rw [if_pos hs3]
    refine (r_sw (t := 80) (dk D125 4 rfl) (by rw [hs3]; rfl)).trans ?_
    refine (r_aln (dk D125 23 rfl) rfl).trans ?_
    refine (r_aln (dk D125 24 rfl) rfl).trans ?_
    refine (r_getR (dk D125 25 rfl) ow125 q11_30 ob_1 rfl).trans ?_
    refine (r_getI (dk D125 26 rfl) ow125 q11_163 ob_11).trans ?_
    exact r_cv (dk D125 27 rfl) ow125 c11_92 mf163 (Nat.le_of_ble_eq_true rfl) rfl rfl (Nat.le_of_ble_eq_true rfl) (Nat.le_of_ble_eq_true rfl) ob_1
  rw [if_neg hs3]
  by_cases hs4 : l1 = 4
  · rw [if_pos hs4]
    refine (r_sw (t := 92) (dk D125 4 rfl) (by rw [hs4]; rfl)).trans ?_
    refine (r_aln (dk D125 29 rfl) rfl).trans ?_
    refine (r_aln (dk D125 30 rfl) rfl).trans ?_
    refine (r_getR (dk D125 31 rfl) ow125 q11_30 ob_1 rfl).trans ?_
    exact r_cv (dk D125 32 rfl) ow125 c11_166 mf102 (Nat.le_of_ble_eq_true rfl) rfl rfl (Nat.le_of_ble_eq_true rfl) (Nat.le_of_ble_eq_true rfl) ob_11
  rw [if_neg hs4]
  refine (r_swd (t := 104) (dk D125 4 rfl) (swd_5 hs0 hs1 hs2 hs3 hs4) rfl).trans ?_
  refine (r_aln (dk D125 35 rfl) rfl).trans ?_
  refine (r_ic (dk D125 36 rfl) ci1).trans ?_
  exact r_cv (dk D125 37 rfl) ow125 c11_81 mf164 (Nat.le_of_ble_eq_true rfl) rfl rfl (Nat.le_of_ble_eq_true rfl) (Nat.le_of_ble_eq_true rfl) ob_1
theorem E125_55 {d sl : Nat} {p : Nat → Nat} {I : Nat → Nat → Int32} {J : Nat → Nat → Int64} (l1 : Int32) (s0 : Int32)  : ev d 125 55 [.ref 1, .int l1] [.int s0] (S sl p I J) = some (some (.int s0), (S sl p I J)) := by
  exact r_ret (dk D125 10 rfl) rt125
theorem E125_67 {d sl : Nat} {p : Nat → Nat} {I : Nat → Nat → Int32} {J : Nat → Nat → Int64} (l1 : Int32) (s0 : Int32)  : ev d 125 67 [.ref 1, .int l1] [.int s0] (S sl p I J) = some (some (.int s0), (S sl p I J)) := by
  exact r_ret (dk D125 16 rfl) rt125
theorem E125_76 {d sl : Nat} {p : Nat → Nat} {I : Nat → Nat → Int32} {J : Nat → Nat → Int64} (l1 : Int32) (s0 : Int32)  : ev (d + 1) 125 76 [.ref 1, .int l1] [.int s0, .ref 1] (S sl p I J) = evK (d + 1) 125 79 [.ref 1, .int l1] [] (den d 163 [.ref 1, .int s0] (S sl p I J)) := by
  exact r_cv (dk D125 21 rfl) ow125 c11_92 mf163 (Nat.le_of_ble_eq_true rfl) rfl rfl (Nat.le_of_ble_eq_true rfl) (Nat.le_of_ble_eq_true rfl) ob_1
theorem E125_79 {d sl : Nat} {p : Nat → Nat} {I : Nat → Nat → Int32} {J : Nat → Nat → Int64} (l1 : Int32) (s0 : Int32)  : ev d 125 79 [.ref 1, .int l1] [.int s0] (S sl p I J) = some (some (.int s0), (S sl p I J)) := by
  exact r_ret (dk D125 22 rfl) rt125
theorem E125_91 {d sl : Nat} {p : Nat → Nat} {I : Nat → Nat → Int32} {J : Nat → Nat → Int64} (l1 : Int32) (s0 : Int32)  : ev d 125 91 [.ref 1, .int l1] [.int s0] (S sl p I J) = some (some (.int s0), (S sl p I J)) := by
  exact r_ret (dk D125 28 rfl) rt125
theorem E125_100 {d sl : Nat} {p : Nat → Nat} {I : Nat → Nat → Int32} {J : Nat → Nat → Int64} (l1 : Int32) (s0 : Int32)  : ev (d + 1) 125 100 [.ref 1, .int l1] [.int s0, .ref 1] (S sl p I J) = evK (d + 1) 125 103 [.ref 1, .int l1] [] (den d 163 [.ref 1, .int s0] (S sl p I J)) := by
  exact r_cv (dk D125 33 rfl) ow125 c11_92 mf163 (Nat.le_of_ble_eq_true rfl) rfl rfl (Nat.le_of_ble_eq_true rfl) (Nat.le_of_ble_eq_true rfl) ob_1
theorem E125_103 {d sl : Nat} {p : Nat → Nat} {I : Nat → Nat → Int32} {J : Nat → Nat → Int64} (l1 : Int32) (s0 : Int32)  : ev d 125 103 [.ref 1, .int l1] [.int s0] (S sl p I J) = some (some (.int s0), (S sl p I J)) := by
  exact r_ret (dk D125 34 rfl) rt125
theorem E125_109 {d sl : Nat} {p : Nat → Nat} {I : Nat → Nat → Int32} {J : Nat → Nat → Int64} (l1 : Int32) (s0 : Int32)  : ev d 125 109 [.ref 1, .int l1] [.int s0] (S sl p I J) = some (some (.int s0), (S sl p I J)) := by
  exact r_ret (dk D125 38 rfl) rt125
set_option maxRecDepth 20000 in
theorem D126 : dOK 126 [(0, .iload_n 2, 1), (1, .iconst 0, 1), (2, .bipush 9, 2), (4, .invokestatic 121, 3), (7, .ifCond .ne 9, 3), (10, .aload_n 0, 1), (11, .iconst 1, 1), (12, .invokevirtual 81, 3), (15, .ireturn, 1), (16, .aload_n 0, 1), (17, .getfield 21, 3), (20, .iload_n 1, 1), (21, .invokevirtual 114, 3), (24, .ifCond .ne 9, 3), (27, .aload_n 0, 1), (28, .iconst 2, 1), (29, .invokevirtual 81, 3), (32, .ireturn, 1), (33, .iload_n 2, 1), (34, .bipush 8, 2), (36, .if_icmp .ne 16, 3), (39, .aload_n 0, 1), (40, .aload_n 0, 1), (41, .getfield 21, 3), (44, .iload_n 1, 1), (45, .invokevirtual 169, 3), (48, .invokevirtual 92, 3), (51, .ireturn, 1), (52, .iload_n 2, 1), (53, .bipush 9, 2), (55, .if_icmp .ne 24, 3), (58, .aload_n 0, 1), (59, .getfield 30, 3), (62, .invokevirtual 156, 3), (65, .aload_n 0, 1), (66, .aload_n 0, 1), (67, .getfield 30, 3), (70, .getfield 172, 3), (73, .iload_n 1, 1), (74, .iaload, 1), (75, .invokevirtual 92, 3), (78, .ireturn, 1), (79, .aload_n 0, 1), (80, .aload_n 0, 1), (81, .getfield 21, 3), (84, .getfield 175, 3), (87, .iload_n 1, 1), (88, .aaload, 1), (89, .iload_n 2, 1), (90, .invokevirtual 179, 3), (93, .invokevirtual 92, 3), (96, .ireturn, 1)] = true := by decide +kernel
theorem E126_0 {d sl : Nat} {p : Nat → Nat} {I : Nat → Nat → Int32} {J : Nat → Nat → Int64} (a1 : Int32) (a2 : Int32)  : den (d + 1) 126 [.ref 1, .int a1, .int a2] (S sl p I J) = evK (d + 1) 126 7 [.ref 1, .int a1, .int a2] [] (den d 167 [.int a2, .int 0, .int 9] (S sl p I J)) := by
  refine (show den (d + 1) 126 [.ref 1, .int a1, .int a2] (S sl p I J) = ev (d + 1) 126 0 [.ref 1, .int a1, .int a2] [] (S sl p I J) from rfl).trans ?_
  refine (r_iln (dk D126 0 rfl) rfl).trans ?_
  refine (r_ic (dk D126 1 rfl) ci0).trans ?_
  refine (r_bp (dk D126 2 rfl) cb9).trans ?_
  exact r_cs (dk D126 3 rfl) ow126 pn11_121 c11_121 mf167 (Nat.le_of_ble_eq_true rfl) rfl rfl (Nat.le_of_ble_eq_true rfl) (Nat.le_of_ble_eq_true rfl)
theorem E126_7 {d sl : Nat} {p : Nat → Nat} {I : Nat → Nat → Int32} {J : Nat → Nat → Int64} (l1 : Int32) (l2 : Int32) (s0 : Int32)  : ev (d + 1) 126 7 [.ref 1, .int l1, .int l2] [.int s0] (S sl p I J) = (if s0 = 0 then evK (d + 1) 126 15 [.ref 1, .int l1, .int l2] [] (den d 164 [.ref 1, .int 1] (S sl p I J)) else evK (d + 1) 126 24 [.ref 1, .int l1, .int l2] [] (den d 60 [.ref 4, .int l1] (S sl p I J))) := by
  refine (r_ne0 (dk D126 4 rfl) rfl).trans (ite2 ?_ ?_)
  · refine (r_aln (dk D126 5 rfl) rfl).trans ?_
    refine (r_ic (dk D126 6 rfl) ci1).trans ?_
    exact r_cv (dk D126 7 rfl) ow126 c11_81 mf164 (Nat.le_of_ble_eq_true rfl) rfl rfl (Nat.le_of_ble_eq_true rfl) (Nat.le_of_ble_eq_true rfl) ob_1
  · refine (r_aln (dk D126 9 rfl) rfl).trans ?_
    refine (r_getR (dk D126 10 rfl) ow126 q11_21 ob_1 rfl).trans ?_
    refine (r_iln (dk D126 11 rfl) rfl).trans ?_
    exact r_cv (dk D126 12 rfl) ow126 c11_114 mf60 (Nat.le_of_ble_eq_true rfl) rfl rfl (Nat.le_of_ble_eq_true rfl) (Nat.le_of_ble_eq_true rfl) ob_4
theorem E126_15 {d sl : Nat} {p : Nat → Nat} {I : Nat → Nat → Int32} {J : Nat → Nat → Int64} (l1 : Int32) (l2 : Int32) (s0 : Int32)  : ev d 126 15 [.ref 1, .int l1, .int l2] [.int s0] (S sl p I J) = some (some (.int s0), (S sl p I J)) := by
  exact r_ret (dk D126 8 rfl) rt126
theorem E126_24 {d sl : Nat} {p : Nat → Nat} {I : Nat → Nat → Int32} {J : Nat → Nat → Int64} (l1 : Int32) (l2 : Int32) (s0 : Int32) (hp : ∀ k, p k < 60)  : ev (d + 1) 126 24 [.ref 1, .int l1, .int l2] [.int s0] (S sl p I J) = (if s0 = 0 then evK (d + 1) 126 32 [.ref 1, .int l1, .int l2] [] (den d 164 [.ref 1, .int 2] (S sl p I J)) else (if l2 = 8 then evK (d + 1) 126 48 [.ref 1, .int l1, .int l2] [.ref 1] (den d 68 [.ref 4, .int l1] (S sl p I J)) else (if l2 = 9 then evK (d + 1) 126 65 [.ref 1, .int l1, .int l2] [] (den d 97 [.ref 11] (S sl p I J)) else ck (ixb 60 l1) (evK (d + 1) 126 93 [.ref 1, .int l1, .int l2] [.ref 1] (den d 11 [.ref (200 + p (Int32.toNatClampNeg l1)), .int l2] (S sl p I J)))))) := by
  refine (r_ne0 (dk D126 13 rfl) rfl).trans (ite2 ?_ ?_)
  · refine (r_aln (dk D126 14 rfl) rfl).trans ?_
    refine (r_ic (dk D126 15 rfl) ci2).trans ?_
    exact r_cv (dk D126 16 rfl) ow126 c11_81 mf164 (Nat.le_of_ble_eq_true rfl) rfl rfl (Nat.le_of_ble_eq_true rfl) (Nat.le_of_ble_eq_true rfl) ob_1
  · refine (r_iln (dk D126 18 rfl) rfl).trans ?_
    refine (r_bp (dk D126 19 rfl) cb8).trans ?_
    refine (r_ne (dk D126 20 rfl) rfl).trans (ite2 ?_ ?_)
    · refine (r_aln (dk D126 21 rfl) rfl).trans ?_
      refine (r_aln (dk D126 22 rfl) rfl).trans ?_
      refine (r_getR (dk D126 23 rfl) ow126 q11_21 ob_1 rfl).trans ?_
      refine (r_iln (dk D126 24 rfl) rfl).trans ?_
      exact r_cv (dk D126 25 rfl) ow126 c11_169 mf68 (Nat.le_of_ble_eq_true rfl) rfl rfl (Nat.le_of_ble_eq_true rfl) (Nat.le_of_ble_eq_true rfl) ob_4
    · refine (r_iln (dk D126 28 rfl) rfl).trans ?_
      refine (r_bp (dk D126 29 rfl) cb9).trans ?_
      refine (r_ne (dk D126 30 rfl) rfl).trans (ite2 ?_ ?_)
      · refine (r_aln (dk D126 31 rfl) rfl).trans ?_
        refine (r_getR (dk D126 32 rfl) ow126 q11_30 ob_1 rfl).trans ?_
        exact r_cv (dk D126 33 rfl) ow126 c11_156 mf97 (Nat.le_of_ble_eq_true rfl) rfl rfl (Nat.le_of_ble_eq_true rfl) (Nat.le_of_ble_eq_true rfl) ob_11
      · refine (r_aln (dk D126 42 rfl) rfl).trans ?_
        refine (r_aln (dk D126 43 rfl) rfl).trans ?_
        refine (r_getR (dk D126 44 rfl) ow126 q11_21 ob_1 rfl).trans ?_
        refine (r_getR (dk D126 45 rfl) ow126 q11_175 ob_4 rfl).trans ?_
        refine (r_iln (dk D126 46 rfl) rfl).trans ?_
        refine (r_ald (dk D126 47 rfl) ar_9 (by decide) rfA9).trans (ck3 fun g1 => ?_)
        refine (r_iln (dk D126 48 rfl) rfl).trans ?_
        exact r_cv (dk D126 49 rfl) ow126 c11_179 mf11 (Nat.le_of_ble_eq_true rfl) rfl rfl (Nat.le_of_ble_eq_true rfl) (Nat.le_of_ble_eq_true rfl) (obC (hp (Int32.toNatClampNeg l1)))
theorem E126_32 {d sl : Nat} {p : Nat → Nat} {I : Nat → Nat → Int32} {J : Nat → Nat → Int64} (l1 : Int32) (l2 : Int32) (s0 : Int32)  : ev d 126 32 [.ref 1, .int l1, .int l2] [.int s0] (S sl p I J) = some (some (.int s0), (S sl p I J)) := by
  exact r_ret (dk D126 17 rfl) rt126
theorem E126_48 {d sl : Nat} {p : Nat → Nat} {I : Nat → Nat → Int32} {J : Nat → Nat → Int64} (l1 : Int32) (l2 : Int32) (s0 : Int32)  : ev (d + 1) 126 48 [.ref 1, .int l1, .int l2] [.int s0, .ref 1] (S sl p I J) = evK (d + 1) 126 51 [.ref 1, .int l1, .int l2] [] (den d 163 [.ref 1, .int s0] (S sl p I J)) := by
  exact r_cv (dk D126 26 rfl) ow126 c11_92 mf163 (Nat.le_of_ble_eq_true rfl) rfl rfl (Nat.le_of_ble_eq_true rfl) (Nat.le_of_ble_eq_true rfl) ob_1
theorem E126_51 {d sl : Nat} {p : Nat → Nat} {I : Nat → Nat → Int32} {J : Nat → Nat → Int64} (l1 : Int32) (l2 : Int32) (s0 : Int32)  : ev d 126 51 [.ref 1, .int l1, .int l2] [.int s0] (S sl p I J) = some (some (.int s0), (S sl p I J)) := by
  exact r_ret (dk D126 27 rfl) rt126
theorem E126_65 {d sl : Nat} {p : Nat → Nat} {I : Nat → Nat → Int32} {J : Nat → Nat → Int64} (l1 : Int32) (l2 : Int32)  : ev (d + 1) 126 65 [.ref 1, .int l1, .int l2] [] (S sl p I J) = ck (ixb 60 l1) (evK (d + 1) 126 78 [.ref 1, .int l1, .int l2] [] (den d 163 [.ref 1, .int (I 12 (Int32.toNatClampNeg l1))] (S sl p I J))) := by
  refine (r_aln (dk D126 34 rfl) rfl).trans ?_
  refine (r_aln (dk D126 35 rfl) rfl).trans ?_
  refine (r_getR (dk D126 36 rfl) ow126 q11_30 ob_1 rfl).trans ?_
  refine (r_getR (dk D126 37 rfl) ow126 q11_172 ob_11 rfl).trans ?_
  refine (r_iln (dk D126 38 rfl) rfl).trans ?_
  refine (r_ild (dk D126 39 rfl) ar_12).trans (ck3 fun g1 => ?_)
  exact r_cv (dk D126 40 rfl) ow126 c11_92 mf163 (Nat.le_of_ble_eq_true rfl) rfl rfl (Nat.le_of_ble_eq_true rfl) (Nat.le_of_ble_eq_true rfl) ob_1
theorem E126_78 {d sl : Nat} {p : Nat → Nat} {I : Nat → Nat → Int32} {J : Nat → Nat → Int64} (l1 : Int32) (l2 : Int32) (s0 : Int32)  : ev d 126 78 [.ref 1, .int l1, .int l2] [.int s0] (S sl p I J) = some (some (.int s0), (S sl p I J)) := by
  exact r_ret (dk D126 41 rfl) rt126
theorem E126_93 {d sl : Nat} {p : Nat → Nat} {I : Nat → Nat → Int32} {J : Nat → Nat → Int64} (l1 : Int32) (l2 : Int32) (s0 : Int32)  : ev (d + 1) 126 93 [.ref 1, .int l1, .int l2] [.int s0, .ref 1] (S sl p I J) = evK (d + 1) 126 96 [.ref 1, .int l1, .int l2] [] (den d 163 [.ref 1, .int s0] (S sl p I J)) := by
  exact r_cv (dk D126 50 rfl) ow126 c11_92 mf163 (Nat.le_of_ble_eq_true rfl) rfl rfl (Nat.le_of_ble_eq_true rfl) (Nat.le_of_ble_eq_true rfl) ob_1
theorem E126_96 {d sl : Nat} {p : Nat → Nat} {I : Nat → Nat → Int32} {J : Nat → Nat → Int64} (l1 : Int32) (l2 : Int32) (s0 : Int32)  : ev d 126 96 [.ref 1, .int l1, .int l2] [.int s0] (S sl p I J) = some (some (.int s0), (S sl p I J)) := by
  exact r_ret (dk D126 51 rfl) rt126
set_option maxRecDepth 20000 in
theorem D127 : dOK 127 [(0, .iload_n 2, 1), (1, .iconst 0, 1), (2, .bipush 6, 2), (4, .invokestatic 121, 3), (7, .ifCond .ne 9, 3), (10, .aload_n 0, 1), (11, .iconst 1, 1), (12, .invokevirtual 81, 3), (15, .ireturn, 1), (16, .aload_n 0, 1), (17, .getfield 21, 3), (20, .iload_n 1, 1), (21, .invokevirtual 99, 3), (24, .ifCond .ne 9, 3), (27, .aload_n 0, 1), (28, .iconst 2, 1), (29, .invokevirtual 81, 3), (32, .ireturn, 1), (33, .aload_n 0, 1), (34, .aload_n 0, 1), (35, .getfield 21, 3), (38, .iload_n 1, 1), (39, .iload_n 2, 1), (40, .invokevirtual 184, 3), (43, .invokevirtual 92, 3), (46, .ireturn, 1)] = true := by decide +kernel
theorem E127_0 {d sl : Nat} {p : Nat → Nat} {I : Nat → Nat → Int32} {J : Nat → Nat → Int64} (a1 : Int32) (a2 : Int32)  : den (d + 1) 127 [.ref 1, .int a1, .int a2] (S sl p I J) = evK (d + 1) 127 7 [.ref 1, .int a1, .int a2] [] (den d 167 [.int a2, .int 0, .int 6] (S sl p I J)) := by
  refine (show den (d + 1) 127 [.ref 1, .int a1, .int a2] (S sl p I J) = ev (d + 1) 127 0 [.ref 1, .int a1, .int a2] [] (S sl p I J) from rfl).trans ?_
  refine (r_iln (dk D127 0 rfl) rfl).trans ?_
  refine (r_ic (dk D127 1 rfl) ci0).trans ?_
  refine (r_bp (dk D127 2 rfl) cb6).trans ?_
  exact r_cs (dk D127 3 rfl) ow127 pn11_121 c11_121 mf167 (Nat.le_of_ble_eq_true rfl) rfl rfl (Nat.le_of_ble_eq_true rfl) (Nat.le_of_ble_eq_true rfl)
theorem E127_7 {d sl : Nat} {p : Nat → Nat} {I : Nat → Nat → Int32} {J : Nat → Nat → Int64} (l1 : Int32) (l2 : Int32) (s0 : Int32)  : ev (d + 1) 127 7 [.ref 1, .int l1, .int l2] [.int s0] (S sl p I J) = (if s0 = 0 then evK (d + 1) 127 15 [.ref 1, .int l1, .int l2] [] (den d 164 [.ref 1, .int 1] (S sl p I J)) else evK (d + 1) 127 24 [.ref 1, .int l1, .int l2] [] (den d 59 [.ref 4, .int l1] (S sl p I J))) := by
  refine (r_ne0 (dk D127 4 rfl) rfl).trans (ite2 ?_ ?_)
  · refine (r_aln (dk D127 5 rfl) rfl).trans ?_
    refine (r_ic (dk D127 6 rfl) ci1).trans ?_
    exact r_cv (dk D127 7 rfl) ow127 c11_81 mf164 (Nat.le_of_ble_eq_true rfl) rfl rfl (Nat.le_of_ble_eq_true rfl) (Nat.le_of_ble_eq_true rfl) ob_1
  · refine (r_aln (dk D127 9 rfl) rfl).trans ?_
    refine (r_getR (dk D127 10 rfl) ow127 q11_21 ob_1 rfl).trans ?_
    refine (r_iln (dk D127 11 rfl) rfl).trans ?_
    exact r_cv (dk D127 12 rfl) ow127 c11_99 mf59 (Nat.le_of_ble_eq_true rfl) rfl rfl (Nat.le_of_ble_eq_true rfl) (Nat.le_of_ble_eq_true rfl) ob_4
theorem E127_15 {d sl : Nat} {p : Nat → Nat} {I : Nat → Nat → Int32} {J : Nat → Nat → Int64} (l1 : Int32) (l2 : Int32) (s0 : Int32)  : ev d 127 15 [.ref 1, .int l1, .int l2] [.int s0] (S sl p I J) = some (some (.int s0), (S sl p I J)) := by
  exact r_ret (dk D127 8 rfl) rt127
theorem E127_24 {d sl : Nat} {p : Nat → Nat} {I : Nat → Nat → Int32} {J : Nat → Nat → Int64} (l1 : Int32) (l2 : Int32) (s0 : Int32)  : ev (d + 1) 127 24 [.ref 1, .int l1, .int l2] [.int s0] (S sl p I J) = (if s0 = 0 then evK (d + 1) 127 32 [.ref 1, .int l1, .int l2] [] (den d 164 [.ref 1, .int 2] (S sl p I J)) else evK (d + 1) 127 43 [.ref 1, .int l1, .int l2] [.ref 1] (den d 71 [.ref 4, .int l1, .int l2] (S sl p I J))) := by
  refine (r_ne0 (dk D127 13 rfl) rfl).trans (ite2 ?_ ?_)
  · refine (r_aln (dk D127 14 rfl) rfl).trans ?_
    refine (r_ic (dk D127 15 rfl) ci2).trans ?_
    exact r_cv (dk D127 16 rfl) ow127 c11_81 mf164 (Nat.le_of_ble_eq_true rfl) rfl rfl (Nat.le_of_ble_eq_true rfl) (Nat.le_of_ble_eq_true rfl) ob_1
  · refine (r_aln (dk D127 18 rfl) rfl).trans ?_
    refine (r_aln (dk D127 19 rfl) rfl).trans ?_
    refine (r_getR (dk D127 20 rfl) ow127 q11_21 ob_1 rfl).trans ?_
    refine (r_iln (dk D127 21 rfl) rfl).trans ?_
    refine (r_iln (dk D127 22 rfl) rfl).trans ?_
    exact r_cv (dk D127 23 rfl) ow127 c11_184 mf71 (Nat.le_of_ble_eq_true rfl) rfl rfl (Nat.le_of_ble_eq_true rfl) (Nat.le_of_ble_eq_true rfl) ob_4
theorem E127_32 {d sl : Nat} {p : Nat → Nat} {I : Nat → Nat → Int32} {J : Nat → Nat → Int64} (l1 : Int32) (l2 : Int32) (s0 : Int32)  : ev d 127 32 [.ref 1, .int l1, .int l2] [.int s0] (S sl p I J) = some (some (.int s0), (S sl p I J)) := by
  exact r_ret (dk D127 17 rfl) rt127
theorem E127_43 {d sl : Nat} {p : Nat → Nat} {I : Nat → Nat → Int32} {J : Nat → Nat → Int64} (l1 : Int32) (l2 : Int32) (s0 : Int32)  : ev (d + 1) 127 43 [.ref 1, .int l1, .int l2] [.int s0, .ref 1] (S sl p I J) = evK (d + 1) 127 46 [.ref 1, .int l1, .int l2] [] (den d 163 [.ref 1, .int s0] (S sl p I J)) := by
  exact r_cv (dk D127 24 rfl) ow127 c11_92 mf163 (Nat.le_of_ble_eq_true rfl) rfl rfl (Nat.le_of_ble_eq_true rfl) (Nat.le_of_ble_eq_true rfl) ob_1
theorem E127_46 {d sl : Nat} {p : Nat → Nat} {I : Nat → Nat → Int32} {J : Nat → Nat → Int64} (l1 : Int32) (l2 : Int32) (s0 : Int32)  : ev d 127 46 [.ref 1, .int l1, .int l2] [.int s0] (S sl p I J) = some (some (.int s0), (S sl p I J)) := by
  exact r_ret (dk D127 25 rfl) rt127
set_option maxRecDepth 20000 in
theorem D128 : dOK 128 [(0, .aload_n 0, 1), (1, .getfield 21, 3), (4, .iload_n 1, 1), (5, .invokevirtual 114, 3), (8, .ifCond .eq 14, 3), (11, .aload_n 0, 1), (12, .getfield 21, 3), (15, .iload_n 2, 1), (16, .invokevirtual 114, 3), (19, .ifCond .ne 9, 3), (22, .aload_n 0, 1), (23, .iconst 2, 1), (24, .invokevirtual 81, 3), (27, .ireturn, 1), (28, .aload_n 0, 1), (29, .aload_n 0, 1), (30, .getfield 21, 3), (33, .iload_n 1, 1), (34, .iload_n 2, 1), (35, .invokevirtual 187, 3), (38, .invokevirtual 92, 3), (41, .ireturn, 1)] = true := by decide +kernel
theorem E128_0 {d sl : Nat} {p : Nat → Nat} {I : Nat → Nat → Int32} {J : Nat → Nat → Int64} (a1 : Int32) (a2 : Int32)  : den (d + 1) 128 [.ref 1, .int a1, .int a2] (S sl p I J) = evK (d + 1) 128 8 [.ref 1, .int a1, .int a2] [] (den d 60 [.ref 4, .int a1] (S sl p I J)) := by
  refine (show den (d + 1) 128 [.ref 1, .int a1, .int a2] (S sl p I J) = ev (d + 1) 128 0 [.ref 1, .int a1, .int a2] [] (S sl p I J) from rfl).trans ?_
  refine (r_aln (dk D128 0 rfl) rfl).trans ?_
  refine (r_getR (dk D128 1 rfl) ow128 q11_21 ob_1 rfl).trans ?_
  refine (r_iln (dk D128 2 rfl) rfl).trans ?_
  exact r_cv (dk D128 3 rfl) ow128 c11_114 mf60 (Nat.le_of_ble_eq_true rfl) rfl rfl (Nat.le_of_ble_eq_true rfl) (Nat.le_of_ble_eq_true rfl) ob_4
theorem E128_8 {d sl : Nat} {p : Nat → Nat} {I : Nat → Nat → Int32} {J : Nat → Nat → Int64} (l1 : Int32) (l2 : Int32) (s0 : Int32)  : ev (d + 1) 128 8 [.ref 1, .int l1, .int l2] [.int s0] (S sl p I J) = (if s0 = 0 then ev (d + 1) 128 22 [.ref 1, .int l1, .int l2] [] (S sl p I J) else evK (d + 1) 128 19 [.ref 1, .int l1, .int l2] [] (den d 60 [.ref 4, .int l2] (S sl p I J))) := by
  refine (r_eq0 (dk D128 4 rfl) rfl).trans (ite2 ?_ ?_)
  · exact rfl
  · refine (r_aln (dk D128 5 rfl) rfl).trans ?_
    refine (r_getR (dk D128 6 rfl) ow128 q11_21 ob_1 rfl).trans ?_
    refine (r_iln (dk D128 7 rfl) rfl).trans ?_
    exact r_cv (dk D128 8 rfl) ow128 c11_114 mf60 (Nat.le_of_ble_eq_true rfl) rfl rfl (Nat.le_of_ble_eq_true rfl) (Nat.le_of_ble_eq_true rfl) ob_4
theorem E128_19 {d sl : Nat} {p : Nat → Nat} {I : Nat → Nat → Int32} {J : Nat → Nat → Int64} (l1 : Int32) (l2 : Int32) (s0 : Int32)  : ev (d + 1) 128 19 [.ref 1, .int l1, .int l2] [.int s0] (S sl p I J) = (if s0 = 0 then ev (d + 1) 128 22 [.ref 1, .int l1, .int l2] [] (S sl p I J) else evK (d + 1) 128 38 [.ref 1, .int l1, .int l2] [.ref 1] (den d 66 [.ref 4, .int l1, .int l2] (S sl p I J))) := by
  refine (r_ne0 (dk D128 9 rfl) rfl).trans (ite2 ?_ ?_)
  · exact rfl
  · refine (r_aln (dk D128 14 rfl) rfl).trans ?_
    refine (r_aln (dk D128 15 rfl) rfl).trans ?_
    refine (r_getR (dk D128 16 rfl) ow128 q11_21 ob_1 rfl).trans ?_
    refine (r_iln (dk D128 17 rfl) rfl).trans ?_
    refine (r_iln (dk D128 18 rfl) rfl).trans ?_
    exact r_cv (dk D128 19 rfl) ow128 c11_187 mf66 (Nat.le_of_ble_eq_true rfl) rfl rfl (Nat.le_of_ble_eq_true rfl) (Nat.le_of_ble_eq_true rfl) ob_4
theorem E128_22 {d sl : Nat} {p : Nat → Nat} {I : Nat → Nat → Int32} {J : Nat → Nat → Int64} (l1 : Int32) (l2 : Int32)  : ev (d + 1) 128 22 [.ref 1, .int l1, .int l2] [] (S sl p I J) = evK (d + 1) 128 27 [.ref 1, .int l1, .int l2] [] (den d 164 [.ref 1, .int 2] (S sl p I J)) := by
  refine (r_aln (dk D128 10 rfl) rfl).trans ?_
  refine (r_ic (dk D128 11 rfl) ci2).trans ?_
  exact r_cv (dk D128 12 rfl) ow128 c11_81 mf164 (Nat.le_of_ble_eq_true rfl) rfl rfl (Nat.le_of_ble_eq_true rfl) (Nat.le_of_ble_eq_true rfl) ob_1
theorem E128_27 {d sl : Nat} {p : Nat → Nat} {I : Nat → Nat → Int32} {J : Nat → Nat → Int64} (l1 : Int32) (l2 : Int32) (s0 : Int32)  : ev d 128 27 [.ref 1, .int l1, .int l2] [.int s0] (S sl p I J) = some (some (.int s0), (S sl p I J)) := by
  exact r_ret (dk D128 13 rfl) rt128
theorem E128_38 {d sl : Nat} {p : Nat → Nat} {I : Nat → Nat → Int32} {J : Nat → Nat → Int64} (l1 : Int32) (l2 : Int32) (s0 : Int32)  : ev (d + 1) 128 38 [.ref 1, .int l1, .int l2] [.int s0, .ref 1] (S sl p I J) = evK (d + 1) 128 41 [.ref 1, .int l1, .int l2] [] (den d 163 [.ref 1, .int s0] (S sl p I J)) := by
  exact r_cv (dk D128 20 rfl) ow128 c11_92 mf163 (Nat.le_of_ble_eq_true rfl) rfl rfl (Nat.le_of_ble_eq_true rfl) (Nat.le_of_ble_eq_true rfl) ob_1
theorem E128_41 {d sl : Nat} {p : Nat → Nat} {I : Nat → Nat → Int32} {J : Nat → Nat → Int64} (l1 : Int32) (l2 : Int32) (s0 : Int32)  : ev d 128 41 [.ref 1, .int l1, .int l2] [.int s0] (S sl p I J) = some (some (.int s0), (S sl p I J)) := by
  exact r_ret (dk D128 21 rfl) rt128
set_option maxRecDepth 20000 in
theorem D129 : dOK 129 [(0, .iload_n 2, 1), (1, .iconst 0, 1), (2, .bipush 90, 2), (4, .invokestatic 121, 3), (7, .ifCond .ne 9, 3), (10, .aload_n 0, 1), (11, .iconst 1, 1), (12, .invokevirtual 81, 3), (15, .ireturn, 1), (16, .aload_n 0, 1), (17, .getfield 21, 3), (20, .iload_n 1, 1), (21, .invokevirtual 114, 3), (24, .ifCond .ne 9, 3), (27, .aload_n 0, 1), (28, .iconst 2, 1), (29, .invokevirtual 81, 3), (32, .ireturn, 1), (33, .aload_n 0, 1), (34, .aload_n 0, 1), (35, .getfield 21, 3), (38, .iload_n 1, 1), (39, .iload_n 2, 1), (40, .invokevirtual 190, 3), (43, .invokevirtual 92, 3), (46, .ireturn, 1)] = true := by decide +kernel
theorem E129_0 {d sl : Nat} {p : Nat → Nat} {I : Nat → Nat → Int32} {J : Nat → Nat → Int64} (a1 : Int32) (a2 : Int32)  : den (d + 1) 129 [.ref 1, .int a1, .int a2] (S sl p I J) = evK (d + 1) 129 7 [.ref 1, .int a1, .int a2] [] (den d 167 [.int a2, .int 0, .int 90] (S sl p I J)) := by
  refine (show den (d + 1) 129 [.ref 1, .int a1, .int a2] (S sl p I J) = ev (d + 1) 129 0 [.ref 1, .int a1, .int a2] [] (S sl p I J) from rfl).trans ?_
  refine (r_iln (dk D129 0 rfl) rfl).trans ?_
  refine (r_ic (dk D129 1 rfl) ci0).trans ?_
  refine (r_bp (dk D129 2 rfl) cb90).trans ?_
  exact r_cs (dk D129 3 rfl) ow129 pn11_121 c11_121 mf167 (Nat.le_of_ble_eq_true rfl) rfl rfl (Nat.le_of_ble_eq_true rfl) (Nat.le_of_ble_eq_true rfl)
theorem E129_7 {d sl : Nat} {p : Nat → Nat} {I : Nat → Nat → Int32} {J : Nat → Nat → Int64} (l1 : Int32) (l2 : Int32) (s0 : Int32)  : ev (d + 1) 129 7 [.ref 1, .int l1, .int l2] [.int s0] (S sl p I J) = (if s0 = 0 then evK (d + 1) 129 15 [.ref 1, .int l1, .int l2] [] (den d 164 [.ref 1, .int 1] (S sl p I J)) else evK (d + 1) 129 24 [.ref 1, .int l1, .int l2] [] (den d 60 [.ref 4, .int l1] (S sl p I J))) := by
  refine (r_ne0 (dk D129 4 rfl) rfl).trans (ite2 ?_ ?_)
  · refine (r_aln (dk D129 5 rfl) rfl).trans ?_
    refine (r_ic (dk D129 6 rfl) ci1).trans ?_
    exact r_cv (dk D129 7 rfl) ow129 c11_81 mf164 (Nat.le_of_ble_eq_true rfl) rfl rfl (Nat.le_of_ble_eq_true rfl) (Nat.le_of_ble_eq_true rfl) ob_1
  · refine (r_aln (dk D129 9 rfl) rfl).trans ?_
    refine (r_getR (dk D129 10 rfl) ow129 q11_21 ob_1 rfl).trans ?_
    refine (r_iln (dk D129 11 rfl) rfl).trans ?_
    exact r_cv (dk D129 12 rfl) ow129 c11_114 mf60 (Nat.le_of_ble_eq_true rfl) rfl rfl (Nat.le_of_ble_eq_true rfl) (Nat.le_of_ble_eq_true rfl) ob_4
theorem E129_15 {d sl : Nat} {p : Nat → Nat} {I : Nat → Nat → Int32} {J : Nat → Nat → Int64} (l1 : Int32) (l2 : Int32) (s0 : Int32)  : ev d 129 15 [.ref 1, .int l1, .int l2] [.int s0] (S sl p I J) = some (some (.int s0), (S sl p I J)) := by
  exact r_ret (dk D129 8 rfl) rt129
theorem E129_24 {d sl : Nat} {p : Nat → Nat} {I : Nat → Nat → Int32} {J : Nat → Nat → Int64} (l1 : Int32) (l2 : Int32) (s0 : Int32)  : ev (d + 1) 129 24 [.ref 1, .int l1, .int l2] [.int s0] (S sl p I J) = (if s0 = 0 then evK (d + 1) 129 32 [.ref 1, .int l1, .int l2] [] (den d 164 [.ref 1, .int 2] (S sl p I J)) else evK (d + 1) 129 43 [.ref 1, .int l1, .int l2] [.ref 1] (den d 67 [.ref 4, .int l1, .int l2] (S sl p I J))) := by
  refine (r_ne0 (dk D129 13 rfl) rfl).trans (ite2 ?_ ?_)
  · refine (r_aln (dk D129 14 rfl) rfl).trans ?_
    refine (r_ic (dk D129 15 rfl) ci2).trans ?_
    exact r_cv (dk D129 16 rfl) ow129 c11_81 mf164 (Nat.le_of_ble_eq_true rfl) rfl rfl (Nat.le_of_ble_eq_true rfl) (Nat.le_of_ble_eq_true rfl) ob_1
  · refine (r_aln (dk D129 18 rfl) rfl).trans ?_
    refine (r_aln (dk D129 19 rfl) rfl).trans ?_
    refine (r_getR (dk D129 20 rfl) ow129 q11_21 ob_1 rfl).trans ?_
    refine (r_iln (dk D129 21 rfl) rfl).trans ?_
    refine (r_iln (dk D129 22 rfl) rfl).trans ?_
    exact r_cv (dk D129 23 rfl) ow129 c11_190 mf67 (Nat.le_of_ble_eq_true rfl) rfl rfl (Nat.le_of_ble_eq_true rfl) (Nat.le_of_ble_eq_true rfl) ob_4
theorem E129_32 {d sl : Nat} {p : Nat → Nat} {I : Nat → Nat → Int32} {J : Nat → Nat → Int64} (l1 : Int32) (l2 : Int32) (s0 : Int32)  : ev d 129 32 [.ref 1, .int l1, .int l2] [.int s0] (S sl p I J) = some (some (.int s0), (S sl p I J)) := by
  exact r_ret (dk D129 17 rfl) rt129
theorem E129_43 {d sl : Nat} {p : Nat → Nat} {I : Nat → Nat → Int32} {J : Nat → Nat → Int64} (l1 : Int32) (l2 : Int32) (s0 : Int32)  : ev (d + 1) 129 43 [.ref 1, .int l1, .int l2] [.int s0, .ref 1] (S sl p I J) = evK (d + 1) 129 46 [.ref 1, .int l1, .int l2] [] (den d 163 [.ref 1, .int s0] (S sl p I J)) := by
  exact r_cv (dk D129 24 rfl) ow129 c11_92 mf163 (Nat.le_of_ble_eq_true rfl) rfl rfl (Nat.le_of_ble_eq_true rfl) (Nat.le_of_ble_eq_true rfl) ob_1
theorem E129_46 {d sl : Nat} {p : Nat → Nat} {I : Nat → Nat → Int32} {J : Nat → Nat → Int64} (l1 : Int32) (l2 : Int32) (s0 : Int32)  : ev d 129 46 [.ref 1, .int l1, .int l2] [.int s0] (S sl p I J) = some (some (.int s0), (S sl p I J)) := by
  exact r_ret (dk D129 25 rfl) rt129
set_option maxRecDepth 20000 in
theorem D130 : dOK 130 [(0, .iload_n 2, 1), (1, .iconst 0, 1), (2, .bipush 11, 2), (4, .invokestatic 121, 3), (7, .ifCond .ne 10, 3), (10, .aload_n 0, 1), (11, .iconst 1, 1), (12, .invokevirtual 81, 3), (15, .i2l, 1), (16, .lreturn, 1), (17, .aload_n 0, 1), (18, .getfield 30, 3), (21, .iload_n 1, 1), (22, .invokevirtual 193, 3), (25, .ifCond .ne 10, 3), (28, .aload_n 0, 1), (29, .iconst 2, 1), (30, .invokevirtual 81, 3), (33, .i2l, 1), (34, .lreturn, 1), (35, .aload_n 0, 1), (36, .iconst 0, 1), (37, .putfield 73, 3), (40, .aload_n 0, 1), (41, .getfield 30, 3), (44, .iload_n 1, 1), (45, .invokevirtual 196, 3), (48, .iload_n 2, 1), (49, .invokevirtual 200, 3), (52, .lreturn, 1)] = true := by decide +kernel
theorem E130_0 {d sl : Nat} {p : Nat → Nat} {I : Nat → Nat → Int32} {J : Nat → Nat → Int64} (a1 : Int32) (a2 : Int32)  : den (d + 1) 130 [.ref 1, .int a1, .int a2] (S sl p I J) = evK (d + 1) 130 7 [.ref 1, .int a1, .int a2] [] (den d 167 [.int a2, .int 0, .int 11] (S sl p I J)) := by
  refine (show den (d + 1) 130 [.ref 1, .int a1, .int a2] (S sl p I J) = ev (d + 1) 130 0 [.ref 1, .int a1, .int a2] [] (S sl p I J) from rfl).trans ?_
  refine (r_iln (dk D130 0 rfl) rfl).trans ?_
  refine (r_ic (dk D130 1 rfl) ci0).trans ?_
  refine (r_bp (dk D130 2 rfl) cb11).trans ?_
  exact r_cs (dk D130 3 rfl) ow130 pn11_121 c11_121 mf167 (Nat.le_of_ble_eq_true rfl) rfl rfl (Nat.le_of_ble_eq_true rfl) (Nat.le_of_ble_eq_true rfl)
theorem E130_7 {d sl : Nat} {p : Nat → Nat} {I : Nat → Nat → Int32} {J : Nat → Nat → Int64} (l1 : Int32) (l2 : Int32) (s0 : Int32)  : ev (d + 1) 130 7 [.ref 1, .int l1, .int l2] [.int s0] (S sl p I J) = (if s0 = 0 then evK (d + 1) 130 15 [.ref 1, .int l1, .int l2] [] (den d 164 [.ref 1, .int 1] (S sl p I J)) else evK (d + 1) 130 25 [.ref 1, .int l1, .int l2] [] (den d 100 [.ref 11, .int l1] (S sl p I J))) := by
  refine (r_ne0 (dk D130 4 rfl) rfl).trans (ite2 ?_ ?_)
  · refine (r_aln (dk D130 5 rfl) rfl).trans ?_
    refine (r_ic (dk D130 6 rfl) ci1).trans ?_
    exact r_cv (dk D130 7 rfl) ow130 c11_81 mf164 (Nat.le_of_ble_eq_true rfl) rfl rfl (Nat.le_of_ble_eq_true rfl) (Nat.le_of_ble_eq_true rfl) ob_1
  · refine (r_aln (dk D130 10 rfl) rfl).trans ?_
    refine (r_getR (dk D130 11 rfl) ow130 q11_30 ob_1 rfl).trans ?_
    refine (r_iln (dk D130 12 rfl) rfl).trans ?_
    exact r_cv (dk D130 13 rfl) ow130 c11_193 mf100 (Nat.le_of_ble_eq_true rfl) rfl rfl (Nat.le_of_ble_eq_true rfl) (Nat.le_of_ble_eq_true rfl) ob_11
theorem E130_15 {d sl : Nat} {p : Nat → Nat} {I : Nat → Nat → Int32} {J : Nat → Nat → Int64} (l1 : Int32) (l2 : Int32) (s0 : Int32)  : ev d 130 15 [.ref 1, .int l1, .int l2] [.int s0] (S sl p I J) = some (some (.long (Int32.toInt64 s0)), (S sl p I J)) := by
  refine (r_i2l (dk D130 8 rfl)).trans ?_
  exact r_rel (dk D130 9 rfl) rt130
theorem E130_25 {d sl : Nat} {p : Nat → Nat} {I : Nat → Nat → Int32} {J : Nat → Nat → Int64} (l1 : Int32) (l2 : Int32) (s0 : Int32)  : ev (d + 1) 130 25 [.ref 1, .int l1, .int l2] [.int s0] (S sl p I J) = (if s0 = 0 then evK (d + 1) 130 33 [.ref 1, .int l1, .int l2] [] (den d 164 [.ref 1, .int 2] (S sl p I J)) else evK (d + 1) 130 48 [.ref 1, .int l1, .int l2] [] (den d 105 [.ref 11, .int l1] (S sl p (up2 I 1 8 0) J))) := by
  refine (r_ne0 (dk D130 14 rfl) rfl).trans (ite2 ?_ ?_)
  · refine (r_aln (dk D130 15 rfl) rfl).trans ?_
    refine (r_ic (dk D130 16 rfl) ci2).trans ?_
    exact r_cv (dk D130 17 rfl) ow130 c11_81 mf164 (Nat.le_of_ble_eq_true rfl) rfl rfl (Nat.le_of_ble_eq_true rfl) (Nat.le_of_ble_eq_true rfl) ob_1
  · refine (r_aln (dk D130 20 rfl) rfl).trans ?_
    refine (r_ic (dk D130 21 rfl) ci0).trans ?_
    refine (r_putI (dk D130 22 rfl) ow130 w11_73 ob_1).trans ?_
    refine (r_aln (dk D130 23 rfl) rfl).trans ?_
    refine (r_getR (dk D130 24 rfl) ow130 q11_30 ob_1 rfl).trans ?_
    refine (r_iln (dk D130 25 rfl) rfl).trans ?_
    exact r_cv (dk D130 26 rfl) ow130 c11_196 mf105 (Nat.le_of_ble_eq_true rfl) rfl rfl (Nat.le_of_ble_eq_true rfl) (Nat.le_of_ble_eq_true rfl) ob_11
theorem E130_33 {d sl : Nat} {p : Nat → Nat} {I : Nat → Nat → Int32} {J : Nat → Nat → Int64} (l1 : Int32) (l2 : Int32) (s0 : Int32)  : ev d 130 33 [.ref 1, .int l1, .int l2] [.int s0] (S sl p I J) = some (some (.long (Int32.toInt64 s0)), (S sl p I J)) := by
  refine (r_i2l (dk D130 18 rfl)).trans ?_
  exact r_rel (dk D130 19 rfl) rt130
theorem E130_48 {d sl : Nat} {p : Nat → Nat} {I : Nat → Nat → Int32} {J : Nat → Nat → Int64} (l1 : Int32) (l2 : Int32) {s0 : Nat} (hs0 : s0 < 30) : ev (d + 1) 130 48 [.ref 1, .int l1, .int l2] [.ref (400 + s0)] (S sl p I J) = evK (d + 1) 130 52 [.ref 1, .int l1, .int l2] [] (den d 14 [.ref (400 + s0), .int l2] (S sl p I J)) := by
  refine (r_iln (dk D130 27 rfl) rfl).trans ?_
  exact r_cv (dk D130 28 rfl) ow130 c11_200 mf14 (Nat.le_of_ble_eq_true rfl) rfl rfl (Nat.le_of_ble_eq_true rfl) (Nat.le_of_ble_eq_true rfl) (obG hs0)
theorem E130_52 {d sl : Nat} {p : Nat → Nat} {I : Nat → Nat → Int32} {J : Nat → Nat → Int64} (l1 : Int32) (l2 : Int32) (s0 : Int64)  : ev d 130 52 [.ref 1, .int l1, .int l2] [.long s0] (S sl p I J) = some (some (.long s0), (S sl p I J)) := by
  exact r_rel (dk D130 29 rfl) rt130
set_option maxRecDepth 20000 in
theorem D131 : dOK 131 [(0, .iload_n 2, 1), (1, .ifCond .ge 9, 3), (4, .aload_n 0, 1), (5, .iconst 1, 1), (6, .invokevirtual 81, 3), (9, .ireturn, 1), (10, .aload_n 0, 1), (11, .getfield 30, 3), (14, .iload_n 1, 1), (15, .invokevirtual 193, 3), (18, .ifCond .ne 9, 3), (21, .aload_n 0, 1), (22, .iconst 2, 1), (23, .invokevirtual 81, 3), (26, .ireturn, 1), (27, .aload_n 0, 1), (28, .aload_n 0, 1), (29, .getfield 30, 3), (32, .iload_n 1, 1), (33, .iload_n 2, 1), (34, .invokevirtual 205, 3), (37, .invokevirtual 208, 3), (40, .ireturn, 1)] = true := by decide +kernel
theorem E131_0 {d sl : Nat} {p : Nat → Nat} {I : Nat → Nat → Int32} {J : Nat → Nat → Int64} (a1 : Int32) (a2 : Int32)  : den (d + 1) 131 [.ref 1, .int a1, .int a2] (S sl p I J) = (if a2 < 0 then evK (d + 1) 131 9 [.ref 1, .int a1, .int a2] [] (den d 164 [.ref 1, .int 1] (S sl p I J)) else evK (d + 1) 131 18 [.ref 1, .int a1, .int a2] [] (den d 100 [.ref 11, .int a1] (S sl p I J))) := by
  refine (show den (d + 1) 131 [.ref 1, .int a1, .int a2] (S sl p I J) = ev (d + 1) 131 0 [.ref 1, .int a1, .int a2] [] (S sl p I J) from rfl).trans ?_
  refine (r_iln (dk D131 0 rfl) rfl).trans ?_
  refine (r_ge0 (dk D131 1 rfl) rfl).trans (ite2 ?_ ?_)
  · refine (r_aln (dk D131 2 rfl) rfl).trans ?_
    refine (r_ic (dk D131 3 rfl) ci1).trans ?_
    exact r_cv (dk D131 4 rfl) ow131 c11_81 mf164 (Nat.le_of_ble_eq_true rfl) rfl rfl (Nat.le_of_ble_eq_true rfl) (Nat.le_of_ble_eq_true rfl) ob_1
  · refine (r_aln (dk D131 6 rfl) rfl).trans ?_
    refine (r_getR (dk D131 7 rfl) ow131 q11_30 ob_1 rfl).trans ?_
    refine (r_iln (dk D131 8 rfl) rfl).trans ?_
    exact r_cv (dk D131 9 rfl) ow131 c11_193 mf100 (Nat.le_of_ble_eq_true rfl) rfl rfl (Nat.le_of_ble_eq_true rfl) (Nat.le_of_ble_eq_true rfl) ob_11
theorem E131_9 {d sl : Nat} {p : Nat → Nat} {I : Nat → Nat → Int32} {J : Nat → Nat → Int64} (l1 : Int32) (l2 : Int32) (s0 : Int32)  : ev d 131 9 [.ref 1, .int l1, .int l2] [.int s0] (S sl p I J) = some (some (.int s0), (S sl p I J)) := by
  exact r_ret (dk D131 5 rfl) rt131
theorem E131_18 {d sl : Nat} {p : Nat → Nat} {I : Nat → Nat → Int32} {J : Nat → Nat → Int64} (l1 : Int32) (l2 : Int32) (s0 : Int32)  : ev (d + 1) 131 18 [.ref 1, .int l1, .int l2] [.int s0] (S sl p I J) = (if s0 = 0 then evK (d + 1) 131 26 [.ref 1, .int l1, .int l2] [] (den d 164 [.ref 1, .int 2] (S sl p I J)) else evK (d + 1) 131 37 [.ref 1, .int l1, .int l2] [.ref 1] (den d 101 [.ref 11, .int l1, .int l2] (S sl p I J))) := by
  refine (r_ne0 (dk D131 10 rfl) rfl).trans (ite2 ?_ ?_)
  · refine (r_aln (dk D131 11 rfl) rfl).trans ?_
    refine (r_ic (dk D131 12 rfl) ci2).trans ?_
    exact r_cv (dk D131 13 rfl) ow131 c11_81 mf164 (Nat.le_of_ble_eq_true rfl) rfl rfl (Nat.le_of_ble_eq_true rfl) (Nat.le_of_ble_eq_true rfl) ob_1
  · refine (r_aln (dk D131 15 rfl) rfl).trans ?_
    refine (r_aln (dk D131 16 rfl) rfl).trans ?_
    refine (r_getR (dk D131 17 rfl) ow131 q11_30 ob_1 rfl).trans ?_
    refine (r_iln (dk D131 18 rfl) rfl).trans ?_
    refine (r_iln (dk D131 19 rfl) rfl).trans ?_
    exact r_cv (dk D131 20 rfl) ow131 c11_205 mf101 (Nat.le_of_ble_eq_true rfl) rfl rfl (Nat.le_of_ble_eq_true rfl) (Nat.le_of_ble_eq_true rfl) ob_11
theorem E131_26 {d sl : Nat} {p : Nat → Nat} {I : Nat → Nat → Int32} {J : Nat → Nat → Int64} (l1 : Int32) (l2 : Int32) (s0 : Int32)  : ev d 131 26 [.ref 1, .int l1, .int l2] [.int s0] (S sl p I J) = some (some (.int s0), (S sl p I J)) := by
  exact r_ret (dk D131 14 rfl) rt131
theorem E131_37 {d sl : Nat} {p : Nat → Nat} {I : Nat → Nat → Int32} {J : Nat → Nat → Int64} (l1 : Int32) (l2 : Int32) (s0 : Int32)  : ev (d + 1) 131 37 [.ref 1, .int l1, .int l2] [.int s0, .ref 1] (S sl p I J) = evK (d + 1) 131 40 [.ref 1, .int l1, .int l2] [] (den d 165 [.ref 1, .int s0] (S sl p I J)) := by
  exact r_cv (dk D131 21 rfl) ow131 c11_208 mf165 (Nat.le_of_ble_eq_true rfl) rfl rfl (Nat.le_of_ble_eq_true rfl) (Nat.le_of_ble_eq_true rfl) ob_1
theorem E131_40 {d sl : Nat} {p : Nat → Nat} {I : Nat → Nat → Int32} {J : Nat → Nat → Int64} (l1 : Int32) (l2 : Int32) (s0 : Int32)  : ev d 131 40 [.ref 1, .int l1, .int l2] [.int s0] (S sl p I J) = some (some (.int s0), (S sl p I J)) := by
  exact r_ret (dk D131 22 rfl) rt131
set_option maxRecDepth 20000 in
theorem D132 : dOK 132 [(0, .iload_n 1, 1), (1, .ifCond .ge 9, 3), (4, .aload_n 0, 1), (5, .iconst 1, 1), (6, .invokevirtual 81, 3), (9, .ireturn, 1), (10, .aload_n 0, 1), (11, .getfield 30, 3), (14, .invokevirtual 156, 3), (17, .aload_n 0, 1), (18, .aload_n 0, 1), (19, .getfield 30, 3), (22, .iconst (-1), 1), (23, .iload_n 1, 1), (24, .invokevirtual 205, 3), (27, .invokevirtual 208, 3), (30, .ireturn, 1)] = true := by decide +kernel
theorem E132_0 {d sl : Nat} {p : Nat → Nat} {I : Nat → Nat → Int32} {J : Nat → Nat → Int64} (a1 : Int32)  : den (d + 1) 132 [.ref 1, .int a1] (S sl p I J) = (if a1 < 0 then evK (d + 1) 132 9 [.ref 1, .int a1] [] (den d 164 [.ref 1, .int 1] (S sl p I J)) else evK (d + 1) 132 17 [.ref 1, .int a1] [] (den d 97 [.ref 11] (S sl p I J))) := by
  refine (show den (d + 1) 132 [.ref 1, .int a1] (S sl p I J) = ev (d + 1) 132 0 [.ref 1, .int a1] [] (S sl p I J) from rfl).trans ?_
  refine (r_iln (dk D132 0 rfl) rfl).trans ?_
  refine (r_ge0 (dk D132 1 rfl) rfl).trans (ite2 ?_ ?_)
  · refine (r_aln (dk D132 2 rfl) rfl).trans ?_
    refine (r_ic (dk D132 3 rfl) ci1).trans ?_
    exact r_cv (dk D132 4 rfl) ow132 c11_81 mf164 (Nat.le_of_ble_eq_true rfl) rfl rfl (Nat.le_of_ble_eq_true rfl) (Nat.le_of_ble_eq_true rfl) ob_1
  · refine (r_aln (dk D132 6 rfl) rfl).trans ?_
    refine (r_getR (dk D132 7 rfl) ow132 q11_30 ob_1 rfl).trans ?_
    exact r_cv (dk D132 8 rfl) ow132 c11_156 mf97 (Nat.le_of_ble_eq_true rfl) rfl rfl (Nat.le_of_ble_eq_true rfl) (Nat.le_of_ble_eq_true rfl) ob_11
theorem E132_9 {d sl : Nat} {p : Nat → Nat} {I : Nat → Nat → Int32} {J : Nat → Nat → Int64} (l1 : Int32) (s0 : Int32)  : ev d 132 9 [.ref 1, .int l1] [.int s0] (S sl p I J) = some (some (.int s0), (S sl p I J)) := by
  exact r_ret (dk D132 5 rfl) rt132
theorem E132_17 {d sl : Nat} {p : Nat → Nat} {I : Nat → Nat → Int32} {J : Nat → Nat → Int64} (l1 : Int32)  : ev (d + 1) 132 17 [.ref 1, .int l1] [] (S sl p I J) = evK (d + 1) 132 27 [.ref 1, .int l1] [.ref 1] (den d 101 [.ref 11, .int (-1), .int l1] (S sl p I J)) := by
  refine (r_aln (dk D132 9 rfl) rfl).trans ?_
  refine (r_aln (dk D132 10 rfl) rfl).trans ?_
  refine (r_getR (dk D132 11 rfl) ow132 q11_30 ob_1 rfl).trans ?_
  refine (r_ic (dk D132 12 rfl) cim1).trans ?_
  refine (r_iln (dk D132 13 rfl) rfl).trans ?_
  exact r_cv (dk D132 14 rfl) ow132 c11_205 mf101 (Nat.le_of_ble_eq_true rfl) rfl rfl (Nat.le_of_ble_eq_true rfl) (Nat.le_of_ble_eq_true rfl) ob_11
theorem E132_27 {d sl : Nat} {p : Nat → Nat} {I : Nat → Nat → Int32} {J : Nat → Nat → Int64} (l1 : Int32) (s0 : Int32)  : ev (d + 1) 132 27 [.ref 1, .int l1] [.int s0, .ref 1] (S sl p I J) = evK (d + 1) 132 30 [.ref 1, .int l1] [] (den d 165 [.ref 1, .int s0] (S sl p I J)) := by
  exact r_cv (dk D132 15 rfl) ow132 c11_208 mf165 (Nat.le_of_ble_eq_true rfl) rfl rfl (Nat.le_of_ble_eq_true rfl) (Nat.le_of_ble_eq_true rfl) ob_1
theorem E132_30 {d sl : Nat} {p : Nat → Nat} {I : Nat → Nat → Int32} {J : Nat → Nat → Int64} (l1 : Int32) (s0 : Int32)  : ev d 132 30 [.ref 1, .int l1] [.int s0] (S sl p I J) = some (some (.int s0), (S sl p I J)) := by
  exact r_ret (dk D132 16 rfl) rt132
set_option maxRecDepth 20000 in
theorem D133 : dOK 133 [(0, .aload_n 0, 1), (1, .iload_n 1, 1), (2, .iload_n 2, 1), (3, .invokevirtual 211, 3), (6, .ifCond .ne 9, 3), (9, .aload_n 0, 1), (10, .iconst 2, 1), (11, .invokevirtual 81, 3), (14, .ireturn, 1), (15, .aload_n 0, 1), (16, .getfield 30, 3), (19, .invokevirtual 144, 3), (22, .aload_n 0, 1), (23, .aload_n 0, 1), (24, .getfield 30, 3), (27, .iload_n 1, 1), (28, .iload_n 2, 1), (29, .invokevirtual 214, 3), (32, .invokevirtual 92, 3), (35, .ireturn, 1)] = true := by decide +kernel
theorem E133_0 {d sl : Nat} {p : Nat → Nat} {I : Nat → Nat → Int32} {J : Nat → Nat → Int64} (a1 : Int32) (a2 : Int32)  : den (d + 1) 133 [.ref 1, .int a1, .int a2] (S sl p I J) = evK (d + 1) 133 6 [.ref 1, .int a1, .int a2] [] (den d 166 [.ref 1, .int a1, .int a2] (S sl p I J)) := by
  refine (show den (d + 1) 133 [.ref 1, .int a1, .int a2] (S sl p I J) = ev (d + 1) 133 0 [.ref 1, .int a1, .int a2] [] (S sl p I J) from rfl).trans ?_
  refine (r_aln (dk D133 0 rfl) rfl).trans ?_
  refine (r_iln (dk D133 1 rfl) rfl).trans ?_
  refine (r_iln (dk D133 2 rfl) rfl).trans ?_
  exact r_cv (dk D133 3 rfl) ow133 c11_211 mf166 (Nat.le_of_ble_eq_true rfl) rfl rfl (Nat.le_of_ble_eq_true rfl) (Nat.le_of_ble_eq_true rfl) ob_1
theorem E133_6 {d sl : Nat} {p : Nat → Nat} {I : Nat → Nat → Int32} {J : Nat → Nat → Int64} (l1 : Int32) (l2 : Int32) (s0 : Int32)  : ev (d + 1) 133 6 [.ref 1, .int l1, .int l2] [.int s0] (S sl p I J) = (if s0 = 0 then evK (d + 1) 133 14 [.ref 1, .int l1, .int l2] [] (den d 164 [.ref 1, .int 2] (S sl p I J)) else evK (d + 1) 133 22 [.ref 1, .int l1, .int l2] [] (den d 104 [.ref 11] (S sl p I J))) := by
  refine (r_ne0 (dk D133 4 rfl) rfl).trans (ite2 ?_ ?_)
  · refine (r_aln (dk D133 5 rfl) rfl).trans ?_
    refine (r_ic (dk D133 6 rfl) ci2).trans ?_
    exact r_cv (dk D133 7 rfl) ow133 c11_81 mf164 (Nat.le_of_ble_eq_true rfl) rfl rfl (Nat.le_of_ble_eq_true rfl) (Nat.le_of_ble_eq_true rfl) ob_1
  · refine (r_aln (dk D133 9 rfl) rfl).trans ?_
    refine (r_getR (dk D133 10 rfl) ow133 q11_30 ob_1 rfl).trans ?_
    exact r_cv (dk D133 11 rfl) ow133 c11_144 mf104 (Nat.le_of_ble_eq_true rfl) rfl rfl (Nat.le_of_ble_eq_true rfl) (Nat.le_of_ble_eq_true rfl) ob_11
theorem E133_14 {d sl : Nat} {p : Nat → Nat} {I : Nat → Nat → Int32} {J : Nat → Nat → Int64} (l1 : Int32) (l2 : Int32) (s0 : Int32)  : ev d 133 14 [.ref 1, .int l1, .int l2] [.int s0] (S sl p I J) = some (some (.int s0), (S sl p I J)) := by
  exact r_ret (dk D133 8 rfl) rt133
theorem E133_22 {d sl : Nat} {p : Nat → Nat} {I : Nat → Nat → Int32} {J : Nat → Nat → Int64} (l1 : Int32) (l2 : Int32)  : ev (d + 1) 133 22 [.ref 1, .int l1, .int l2] [] (S sl p I J) = evK (d + 1) 133 32 [.ref 1, .int l1, .int l2] [.ref 1] (den d 110 [.ref 11, .int l1, .int l2] (S sl p I J)) := by
  refine (r_aln (dk D133 12 rfl) rfl).trans ?_
  refine (r_aln (dk D133 13 rfl) rfl).trans ?_
  refine (r_getR (dk D133 14 rfl) ow133 q11_30 ob_1 rfl).trans ?_
  refine (r_iln (dk D133 15 rfl) rfl).trans ?_
  refine (r_iln (dk D133 16 rfl) rfl).trans ?_
  exact r_cv (dk D133 17 rfl) ow133 c11_214 mf110 (Nat.le_of_ble_eq_true rfl) rfl rfl (Nat.le_of_ble_eq_true rfl) (Nat.le_of_ble_eq_true rfl) ob_11
theorem E133_32 {d sl : Nat} {p : Nat → Nat} {I : Nat → Nat → Int32} {J : Nat → Nat → Int64} (l1 : Int32) (l2 : Int32) (s0 : Int32)  : ev (d + 1) 133 32 [.ref 1, .int l1, .int l2] [.int s0, .ref 1] (S sl p I J) = evK (d + 1) 133 35 [.ref 1, .int l1, .int l2] [] (den d 163 [.ref 1, .int s0] (S sl p I J)) := by
  exact r_cv (dk D133 18 rfl) ow133 c11_92 mf163 (Nat.le_of_ble_eq_true rfl) rfl rfl (Nat.le_of_ble_eq_true rfl) (Nat.le_of_ble_eq_true rfl) ob_1
theorem E133_35 {d sl : Nat} {p : Nat → Nat} {I : Nat → Nat → Int32} {J : Nat → Nat → Int64} (l1 : Int32) (l2 : Int32) (s0 : Int32)  : ev d 133 35 [.ref 1, .int l1, .int l2] [.int s0] (S sl p I J) = some (some (.int s0), (S sl p I J)) := by
  exact r_ret (dk D133 19 rfl) rt133
set_option maxRecDepth 20000 in
theorem D134 : dOK 134 [(0, .aload_n 0, 1), (1, .getfield 21, 3), (4, .iload_n 1, 1), (5, .invokevirtual 114, 3), (8, .ifCond .eq 14, 3), (11, .aload_n 0, 1), (12, .getfield 21, 3), (15, .iload_n 2, 1), (16, .invokevirtual 114, 3), (19, .ifCond .ne 9, 3), (22, .aload_n 0, 1), (23, .iconst 2, 1), (24, .invokevirtual 81, 3), (27, .ireturn, 1), (28, .aload_n 0, 1), (29, .aload_n 0, 1), (30, .getfield 30, 3), (33, .iload_n 1, 1), (34, .iload_n 2, 1), (35, .invokevirtual 217, 3), (38, .invokevirtual 92, 3), (41, .ireturn, 1)] = true := by decide +kernel
theorem E134_0 {d sl : Nat} {p : Nat → Nat} {I : Nat → Nat → Int32} {J : Nat → Nat → Int64} (a1 : Int32) (a2 : Int32)  : den (d + 1) 134 [.ref 1, .int a1, .int a2] (S sl p I J) = evK (d + 1) 134 8 [.ref 1, .int a1, .int a2] [] (den d 60 [.ref 4, .int a1] (S sl p I J)) := by
  refine (show den (d + 1) 134 [.ref 1, .int a1, .int a2] (S sl p I J) = ev (d + 1) 134 0 [.ref 1, .int a1, .int a2] [] (S sl p I J) from rfl).trans ?_
  refine (r_aln (dk D134 0 rfl) rfl).trans ?_
  refine (r_getR (dk D134 1 rfl) ow134 q11_21 ob_1 rfl).trans ?_
  refine (r_iln (dk D134 2 rfl) rfl).trans ?_
  exact r_cv (dk D134 3 rfl) ow134 c11_114 mf60 (Nat.le_of_ble_eq_true rfl) rfl rfl (Nat.le_of_ble_eq_true rfl) (Nat.le_of_ble_eq_true rfl) ob_4
theorem E134_8 {d sl : Nat} {p : Nat → Nat} {I : Nat → Nat → Int32} {J : Nat → Nat → Int64} (l1 : Int32) (l2 : Int32) (s0 : Int32)  : ev (d + 1) 134 8 [.ref 1, .int l1, .int l2] [.int s0] (S sl p I J) = (if s0 = 0 then ev (d + 1) 134 22 [.ref 1, .int l1, .int l2] [] (S sl p I J) else evK (d + 1) 134 19 [.ref 1, .int l1, .int l2] [] (den d 60 [.ref 4, .int l2] (S sl p I J))) := by
  refine (r_eq0 (dk D134 4 rfl) rfl).trans (ite2 ?_ ?_)
  · exact rfl
  · refine (r_aln (dk D134 5 rfl) rfl).trans ?_
    refine (r_getR (dk D134 6 rfl) ow134 q11_21 ob_1 rfl).trans ?_
    refine (r_iln (dk D134 7 rfl) rfl).trans ?_
    exact r_cv (dk D134 8 rfl) ow134 c11_114 mf60 (Nat.le_of_ble_eq_true rfl) rfl rfl (Nat.le_of_ble_eq_true rfl) (Nat.le_of_ble_eq_true rfl) ob_4
theorem E134_19 {d sl : Nat} {p : Nat → Nat} {I : Nat → Nat → Int32} {J : Nat → Nat → Int64} (l1 : Int32) (l2 : Int32) (s0 : Int32)  : ev (d + 1) 134 19 [.ref 1, .int l1, .int l2] [.int s0] (S sl p I J) = (if s0 = 0 then ev (d + 1) 134 22 [.ref 1, .int l1, .int l2] [] (S sl p I J) else evK (d + 1) 134 38 [.ref 1, .int l1, .int l2] [.ref 1] (den d 93 [.ref 11, .int l1, .int l2] (S sl p I J))) := by
  refine (r_ne0 (dk D134 9 rfl) rfl).trans (ite2 ?_ ?_)
  · exact rfl
  · refine (r_aln (dk D134 14 rfl) rfl).trans ?_
    refine (r_aln (dk D134 15 rfl) rfl).trans ?_
    refine (r_getR (dk D134 16 rfl) ow134 q11_30 ob_1 rfl).trans ?_
    refine (r_iln (dk D134 17 rfl) rfl).trans ?_
    refine (r_iln (dk D134 18 rfl) rfl).trans ?_
    exact r_cv (dk D134 19 rfl) ow134 c11_217 mf93 (Nat.le_of_ble_eq_true rfl) rfl rfl (Nat.le_of_ble_eq_true rfl) (Nat.le_of_ble_eq_true rfl) ob_11
theorem E134_22 {d sl : Nat} {p : Nat → Nat} {I : Nat → Nat → Int32} {J : Nat → Nat → Int64} (l1 : Int32) (l2 : Int32)  : ev (d + 1) 134 22 [.ref 1, .int l1, .int l2] [] (S sl p I J) = evK (d + 1) 134 27 [.ref 1, .int l1, .int l2] [] (den d 164 [.ref 1, .int 2] (S sl p I J)) := by
  refine (r_aln (dk D134 10 rfl) rfl).trans ?_
  refine (r_ic (dk D134 11 rfl) ci2).trans ?_
  exact r_cv (dk D134 12 rfl) ow134 c11_81 mf164 (Nat.le_of_ble_eq_true rfl) rfl rfl (Nat.le_of_ble_eq_true rfl) (Nat.le_of_ble_eq_true rfl) ob_1
theorem E134_27 {d sl : Nat} {p : Nat → Nat} {I : Nat → Nat → Int32} {J : Nat → Nat → Int64} (l1 : Int32) (l2 : Int32) (s0 : Int32)  : ev d 134 27 [.ref 1, .int l1, .int l2] [.int s0] (S sl p I J) = some (some (.int s0), (S sl p I J)) := by
  exact r_ret (dk D134 13 rfl) rt134
theorem E134_38 {d sl : Nat} {p : Nat → Nat} {I : Nat → Nat → Int32} {J : Nat → Nat → Int64} (l1 : Int32) (l2 : Int32) (s0 : Int32)  : ev (d + 1) 134 38 [.ref 1, .int l1, .int l2] [.int s0, .ref 1] (S sl p I J) = evK (d + 1) 134 41 [.ref 1, .int l1, .int l2] [] (den d 163 [.ref 1, .int s0] (S sl p I J)) := by
  exact r_cv (dk D134 20 rfl) ow134 c11_92 mf163 (Nat.le_of_ble_eq_true rfl) rfl rfl (Nat.le_of_ble_eq_true rfl) (Nat.le_of_ble_eq_true rfl) ob_1
theorem E134_41 {d sl : Nat} {p : Nat → Nat} {I : Nat → Nat → Int32} {J : Nat → Nat → Int64} (l1 : Int32) (l2 : Int32) (s0 : Int32)  : ev d 134 41 [.ref 1, .int l1, .int l2] [.int s0] (S sl p I J) = some (some (.int s0), (S sl p I J)) := by
  exact r_ret (dk D134 21 rfl) rt134
set_option maxRecDepth 20000 in
theorem D135 : dOK 135 [(0, .iload_n 3, 1), (1, .iconst 0, 1), (2, .iconst 1, 1), (3, .invokestatic 121, 3), (6, .ifCond .ne 9, 3), (9, .aload_n 0, 1), (10, .iconst 1, 1), (11, .invokevirtual 81, 3), (14, .ireturn, 1), (15, .aload_n 0, 1), (16, .iload_n 1, 1), (17, .iload_n 2, 1), (18, .invokevirtual 211, 3), (21, .ifCond .ne 9, 3), (24, .aload_n 0, 1), (25, .iconst 2, 1), (26, .invokevirtual 81, 3), (29, .ireturn, 1), (30, .aload_n 0, 1), (31, .getfield 30, 3), (34, .invokevirtual 144, 3), (37, .iload_n 3, 1), (38, .iconst 1, 1), (39, .if_icmp .ne 17, 3), (42, .aload_n 0, 1), (43, .aload_n 0, 1), (44, .getfield 30, 3), (47, .iload_n 1, 1), (48, .iload_n 2, 1), (49, .invokevirtual 220, 3), (52, .invokevirtual 92, 3), (55, .ireturn, 1), (56, .aload_n 0, 1), (57, .aload_n 0, 1), (58, .getfield 30, 3), (61, .iload_n 1, 1), (62, .iload_n 2, 1), (63, .invokevirtual 223, 3), (66, .ifCond .eq 7, 3), (69, .iconst 1, 1), (70, .goto 4, 3), (73, .iconst 0, 1), (74, .invokevirtual 92, 3), (77, .ireturn, 1)] = true := by decide +kernel
theorem E135_0 {d sl : Nat} {p : Nat → Nat} {I : Nat → Nat → Int32} {J : Nat → Nat → Int64} (a1 : Int32) (a2 : Int32) (a3 : Int32)  : den (d + 1) 135 [.ref 1, .int a1, .int a2, .int a3] (S sl p I J) = evK (d + 1) 135 6 [.ref 1, .int a1, .int a2, .int a3] [] (den d 167 [.int a3, .int 0, .int 1] (S sl p I J)) := by
  refine (show den (d + 1) 135 [.ref 1, .int a1, .int a2, .int a3] (S sl p I J) = ev (d + 1) 135 0 [.ref 1, .int a1, .int a2, .int a3] [] (S sl p I J) from rfl).trans ?_
  refine (r_iln (dk D135 0 rfl) rfl).trans ?_
  refine (r_ic (dk D135 1 rfl) ci0).trans ?_
  refine (r_ic (dk D135 2 rfl) ci1).trans ?_
  exact r_cs (dk D135 3 rfl) ow135 pn11_121 c11_121 mf167 (Nat.le_of_ble_eq_true rfl) rfl rfl (Nat.le_of_ble_eq_true rfl) (Nat.le_of_ble_eq_true rfl)
theorem E135_6 {d sl : Nat} {p : Nat → Nat} {I : Nat → Nat → Int32} {J : Nat → Nat → Int64} (l1 : Int32) (l2 : Int32) (l3 : Int32) (s0 : Int32)  : ev (d + 1) 135 6 [.ref 1, .int l1, .int l2, .int l3] [.int s0] (S sl p I J) = (if s0 = 0 then evK (d + 1) 135 14 [.ref 1, .int l1, .int l2, .int l3] [] (den d 164 [.ref 1, .int 1] (S sl p I J)) else evK (d + 1) 135 21 [.ref 1, .int l1, .int l2, .int l3] [] (den d 166 [.ref 1, .int l1, .int l2] (S sl p I J))) := by
  refine (r_ne0 (dk D135 4 rfl) rfl).trans (ite2 ?_ ?_)
  · refine (r_aln (dk D135 5 rfl) rfl).trans ?_
    refine (r_ic (dk D135 6 rfl) ci1).trans ?_
    exact r_cv (dk D135 7 rfl) ow135 c11_81 mf164 (Nat.le_of_ble_eq_true rfl) rfl rfl (Nat.le_of_ble_eq_true rfl) (Nat.le_of_ble_eq_true rfl) ob_1
  · refine (r_aln (dk D135 9 rfl) rfl).trans ?_
    refine (r_iln (dk D135 10 rfl) rfl).trans ?_
    refine (r_iln (dk D135 11 rfl) rfl).trans ?_
    exact r_cv (dk D135 12 rfl) ow135 c11_211 mf166 (Nat.le_of_ble_eq_true rfl) rfl rfl (Nat.le_of_ble_eq_true rfl) (Nat.le_of_ble_eq_true rfl) ob_1
theorem E135_14 {d sl : Nat} {p : Nat → Nat} {I : Nat → Nat → Int32} {J : Nat → Nat → Int64} (l1 : Int32) (l2 : Int32) (l3 : Int32) (s0 : Int32)  : ev d 135 14 [.ref 1, .int l1, .int l2, .int l3] [.int s0] (S sl p I J) = some (some (.int s0), (S sl p I J)) := by
  exact r_ret (dk D135 8 rfl) rt135
theorem E135_21 {d sl : Nat} {p : Nat → Nat} {I : Nat → Nat → Int32} {J : Nat → Nat → Int64} (l1 : Int32) (l2 : Int32) (l3 : Int32) (s0 : Int32)  : ev (d + 1) 135 21 [.ref 1, .int l1, .int l2, .int l3] [.int s0] (S sl p I J) = (if s0 = 0 then evK (d + 1) 135 29 [.ref 1, .int l1, .int l2, .int l3] [] (den d 164 [.ref 1, .int 2] (S sl p I J)) else evK (d + 1) 135 37 [.ref 1, .int l1, .int l2, .int l3] [] (den d 104 [.ref 11] (S sl p I J))) := by
  refine (r_ne0 (dk D135 13 rfl) rfl).trans (ite2 ?_ ?_)
  · refine (r_aln (dk D135 14 rfl) rfl).trans ?_
    refine (r_ic (dk D135 15 rfl) ci2).trans ?_
    exact r_cv (dk D135 16 rfl) ow135 c11_81 mf164 (Nat.le_of_ble_eq_true rfl) rfl rfl (Nat.le_of_ble_eq_true rfl) (Nat.le_of_ble_eq_true rfl) ob_1
  · refine (r_aln (dk D135 18 rfl) rfl).trans ?_
    refine (r_getR (dk D135 19 rfl) ow135 q11_30 ob_1 rfl).trans ?_
    exact r_cv (dk D135 20 rfl) ow135 c11_144 mf104 (Nat.le_of_ble_eq_true rfl) rfl rfl (Nat.le_of_ble_eq_true rfl) (Nat.le_of_ble_eq_true rfl) ob_11
theorem E135_29 {d sl : Nat} {p : Nat → Nat} {I : Nat → Nat → Int32} {J : Nat → Nat → Int64} (l1 : Int32) (l2 : Int32) (l3 : Int32) (s0 : Int32)  : ev d 135 29 [.ref 1, .int l1, .int l2, .int l3] [.int s0] (S sl p I J) = some (some (.int s0), (S sl p I J)) := by
  exact r_ret (dk D135 17 rfl) rt135
theorem E135_37 {d sl : Nat} {p : Nat → Nat} {I : Nat → Nat → Int32} {J : Nat → Nat → Int64} (l1 : Int32) (l2 : Int32) (l3 : Int32)  : ev (d + 1) 135 37 [.ref 1, .int l1, .int l2, .int l3] [] (S sl p I J) = (if l3 = 1 then evK (d + 1) 135 52 [.ref 1, .int l1, .int l2, .int l3] [.ref 1] (den d 112 [.ref 11, .int l1, .int l2] (S sl p I J)) else evK (d + 1) 135 66 [.ref 1, .int l1, .int l2, .int l3] [.ref 1] (den d 111 [.ref 11, .int l1, .int l2] (S sl p I J))) := by
  refine (r_iln (dk D135 21 rfl) rfl).trans ?_
  refine (r_ic (dk D135 22 rfl) ci1).trans ?_
  refine (r_ne (dk D135 23 rfl) rfl).trans (ite2 ?_ ?_)
  · refine (r_aln (dk D135 24 rfl) rfl).trans ?_
    refine (r_aln (dk D135 25 rfl) rfl).trans ?_
    refine (r_getR (dk D135 26 rfl) ow135 q11_30 ob_1 rfl).trans ?_
    refine (r_iln (dk D135 27 rfl) rfl).trans ?_
    refine (r_iln (dk D135 28 rfl) rfl).trans ?_
    exact r_cv (dk D135 29 rfl) ow135 c11_220 mf112 (Nat.le_of_ble_eq_true rfl) rfl rfl (Nat.le_of_ble_eq_true rfl) (Nat.le_of_ble_eq_true rfl) ob_11
  · refine (r_aln (dk D135 32 rfl) rfl).trans ?_
    refine (r_aln (dk D135 33 rfl) rfl).trans ?_
    refine (r_getR (dk D135 34 rfl) ow135 q11_30 ob_1 rfl).trans ?_
    refine (r_iln (dk D135 35 rfl) rfl).trans ?_
    refine (r_iln (dk D135 36 rfl) rfl).trans ?_
    exact r_cv (dk D135 37 rfl) ow135 c11_223 mf111 (Nat.le_of_ble_eq_true rfl) rfl rfl (Nat.le_of_ble_eq_true rfl) (Nat.le_of_ble_eq_true rfl) ob_11
theorem E135_52 {d sl : Nat} {p : Nat → Nat} {I : Nat → Nat → Int32} {J : Nat → Nat → Int64} (l1 : Int32) (l2 : Int32) (l3 : Int32) (s0 : Int32)  : ev (d + 1) 135 52 [.ref 1, .int l1, .int l2, .int l3] [.int s0, .ref 1] (S sl p I J) = evK (d + 1) 135 55 [.ref 1, .int l1, .int l2, .int l3] [] (den d 163 [.ref 1, .int s0] (S sl p I J)) := by
  exact r_cv (dk D135 30 rfl) ow135 c11_92 mf163 (Nat.le_of_ble_eq_true rfl) rfl rfl (Nat.le_of_ble_eq_true rfl) (Nat.le_of_ble_eq_true rfl) ob_1
theorem E135_55 {d sl : Nat} {p : Nat → Nat} {I : Nat → Nat → Int32} {J : Nat → Nat → Int64} (l1 : Int32) (l2 : Int32) (l3 : Int32) (s0 : Int32)  : ev d 135 55 [.ref 1, .int l1, .int l2, .int l3] [.int s0] (S sl p I J) = some (some (.int s0), (S sl p I J)) := by
  exact r_ret (dk D135 31 rfl) rt135
theorem E135_66 {d sl : Nat} {p : Nat → Nat} {I : Nat → Nat → Int32} {J : Nat → Nat → Int64} (l1 : Int32) (l2 : Int32) (l3 : Int32) (s0 : Int32)  : ev d 135 66 [.ref 1, .int l1, .int l2, .int l3] [.int s0, .ref 1] (S sl p I J) = (if s0 = 0 then ev d 135 74 [.ref 1, .int l1, .int l2, .int l3] [.int 0, .ref 1] (S sl p I J) else ev d 135 74 [.ref 1, .int l1, .int l2, .int l3] [.int 1, .ref 1] (S sl p I J)) := by
  refine (r_eq0 (dk D135 38 rfl) rfl).trans (ite2 ?_ ?_)
  · refine (r_ic (dk D135 41 rfl) ci0).trans ?_
    exact rfl
  · refine (r_ic (dk D135 39 rfl) ci1).trans ?_
    refine (r_goto (L' := [.ref 1, .int l1, .int l2, .int l3]) (dk D135 40 rfl) rfl nd135_74 rfl).trans ?_
    exact rfl
theorem E135_74 {d sl : Nat} {p : Nat → Nat} {I : Nat → Nat → Int32} {J : Nat → Nat → Int64} (l1 : Int32) (l2 : Int32) (l3 : Int32) (s0 : Int32)  : ev (d + 1) 135 74 [.ref 1, .int l1, .int l2, .int l3] [.int s0, .ref 1] (S sl p I J) = evK (d + 1) 135 77 [.ref 1, .int l1, .int l2, .int l3] [] (den d 163 [.ref 1, .int s0] (S sl p I J)) := by
  exact r_cv (dk D135 42 rfl) ow135 c11_92 mf163 (Nat.le_of_ble_eq_true rfl) rfl rfl (Nat.le_of_ble_eq_true rfl) (Nat.le_of_ble_eq_true rfl) ob_1
theorem E135_77 {d sl : Nat} {p : Nat → Nat} {I : Nat → Nat → Int32} {J : Nat → Nat → Int64} (l1 : Int32) (l2 : Int32) (l3 : Int32) (s0 : Int32)  : ev d 135 77 [.ref 1, .int l1, .int l2, .int l3] [.int s0] (S sl p I J) = some (some (.int s0), (S sl p I J)) := by
  exact r_ret (dk D135 43 rfl) rt135
set_option maxRecDepth 20000 in
theorem D136 : dOK 136 [(0, .aload_n 0, 1), (1, .getfield 30, 3), (4, .invokevirtual 156, 3), (7, .aload_n 0, 1), (8, .aload_n 0, 1), (9, .getfield 30, 3), (12, .invokevirtual 226, 3), (15, .invokevirtual 92, 3), (18, .ireturn, 1)] = true := by decide +kernel
theorem E136_0 {d sl : Nat} {p : Nat → Nat} {I : Nat → Nat → Int32} {J : Nat → Nat → Int64}   : den (d + 1) 136 [.ref 1] (S sl p I J) = evK (d + 1) 136 7 [.ref 1] [] (den d 97 [.ref 11] (S sl p I J)) := by
  refine (show den (d + 1) 136 [.ref 1] (S sl p I J) = ev (d + 1) 136 0 [.ref 1] [] (S sl p I J) from rfl).trans ?_
  refine (r_aln (dk D136 0 rfl) rfl).trans ?_
  refine (r_getR (dk D136 1 rfl) ow136 q11_30 ob_1 rfl).trans ?_
  exact r_cv (dk D136 2 rfl) ow136 c11_156 mf97 (Nat.le_of_ble_eq_true rfl) rfl rfl (Nat.le_of_ble_eq_true rfl) (Nat.le_of_ble_eq_true rfl) ob_11
theorem E136_7 {d sl : Nat} {p : Nat → Nat} {I : Nat → Nat → Int32} {J : Nat → Nat → Int64}   : ev (d + 1) 136 7 [.ref 1] [] (S sl p I J) = evK (d + 1) 136 15 [.ref 1] [.ref 1] (den d 103 [.ref 11] (S sl p I J)) := by
  refine (r_aln (dk D136 3 rfl) rfl).trans ?_
  refine (r_aln (dk D136 4 rfl) rfl).trans ?_
  refine (r_getR (dk D136 5 rfl) ow136 q11_30 ob_1 rfl).trans ?_
  exact r_cv (dk D136 6 rfl) ow136 c11_226 mf103 (Nat.le_of_ble_eq_true rfl) rfl rfl (Nat.le_of_ble_eq_true rfl) (Nat.le_of_ble_eq_true rfl) ob_11
theorem E136_15 {d sl : Nat} {p : Nat → Nat} {I : Nat → Nat → Int32} {J : Nat → Nat → Int64} (s0 : Int32)  : ev (d + 1) 136 15 [.ref 1] [.int s0, .ref 1] (S sl p I J) = evK (d + 1) 136 18 [.ref 1] [] (den d 163 [.ref 1, .int s0] (S sl p I J)) := by
  exact r_cv (dk D136 7 rfl) ow136 c11_92 mf163 (Nat.le_of_ble_eq_true rfl) rfl rfl (Nat.le_of_ble_eq_true rfl) (Nat.le_of_ble_eq_true rfl) ob_1
theorem E136_18 {d sl : Nat} {p : Nat → Nat} {I : Nat → Nat → Int32} {J : Nat → Nat → Int64} (s0 : Int32)  : ev d 136 18 [.ref 1] [.int s0] (S sl p I J) = some (some (.int s0), (S sl p I J)) := by
  exact r_ret (dk D136 8 rfl) rt136
set_option maxRecDepth 20000 in
theorem D137 : dOK 137 [(0, .aload_n 0, 1), (1, .getfield 21, 3), (4, .iload_n 1, 1), (5, .invokevirtual 114, 3), (8, .ifCond .ne 9, 3), (11, .aload_n 0, 1), (12, .iconst 2, 1), (13, .invokevirtual 81, 3), (16, .ireturn, 1), (17, .aload_n 0, 1), (18, .aload_n 0, 1), (19, .getfield 30, 3), (22, .aload_n 0, 1), (23, .getfield 30, 3), (26, .getfield 124, 3), (29, .iload_n 1, 1), (30, .invokevirtual 229, 3), (33, .invokevirtual 92, 3), (36, .ireturn, 1)] = true := by decide +kernel
theorem E137_0 {d sl : Nat} {p : Nat → Nat} {I : Nat → Nat → Int32} {J : Nat → Nat → Int64} (a1 : Int32)  : den (d + 1) 137 [.ref 1, .int a1] (S sl p I J) = evK (d + 1) 137 8 [.ref 1, .int a1] [] (den d 60 [.ref 4, .int a1] (S sl p I J)) := by
  refine (show den (d + 1) 137 [.ref 1, .int a1] (S sl p I J) = ev (d + 1) 137 0 [.ref 1, .int a1] [] (S sl p I J) from rfl).trans ?_
  refine (r_aln (dk D137 0 rfl) rfl).trans ?_
  refine (r_getR (dk D137 1 rfl) ow137 q11_21 ob_1 rfl).trans ?_
  refine (r_iln (dk D137 2 rfl) rfl).trans ?_
  exact r_cv (dk D137 3 rfl) ow137 c11_114 mf60 (Nat.le_of_ble_eq_true rfl) rfl rfl (Nat.le_of_ble_eq_true rfl) (Nat.le_of_ble_eq_true rfl) ob_4
theorem E137_8 {d sl : Nat} {p : Nat → Nat} {I : Nat → Nat → Int32} {J : Nat → Nat → Int64} (l1 : Int32) (s0 : Int32)  : ev (d + 1) 137 8 [.ref 1, .int l1] [.int s0] (S sl p I J) = (if s0 = 0 then evK (d + 1) 137 16 [.ref 1, .int l1] [] (den d 164 [.ref 1, .int 2] (S sl p I J)) else evK (d + 1) 137 33 [.ref 1, .int l1] [.ref 1] (den d 91 [.ref 11, .int (I 11 12), .int l1] (S sl p I J))) := by
  refine (r_ne0 (dk D137 4 rfl) rfl).trans (ite2 ?_ ?_)
  · refine (r_aln (dk D137 5 rfl) rfl).trans ?_
    refine (r_ic (dk D137 6 rfl) ci2).trans ?_
    exact r_cv (dk D137 7 rfl) ow137 c11_81 mf164 (Nat.le_of_ble_eq_true rfl) rfl rfl (Nat.le_of_ble_eq_true rfl) (Nat.le_of_ble_eq_true rfl) ob_1
  · refine (r_aln (dk D137 9 rfl) rfl).trans ?_
    refine (r_aln (dk D137 10 rfl) rfl).trans ?_
    refine (r_getR (dk D137 11 rfl) ow137 q11_30 ob_1 rfl).trans ?_
    refine (r_aln (dk D137 12 rfl) rfl).trans ?_
    refine (r_getR (dk D137 13 rfl) ow137 q11_30 ob_1 rfl).trans ?_
    refine (r_getI (dk D137 14 rfl) ow137 q11_124 ob_11).trans ?_
    refine (r_iln (dk D137 15 rfl) rfl).trans ?_
    exact r_cv (dk D137 16 rfl) ow137 c11_229 mf91 (Nat.le_of_ble_eq_true rfl) rfl rfl (Nat.le_of_ble_eq_true rfl) (Nat.le_of_ble_eq_true rfl) ob_11
theorem E137_16 {d sl : Nat} {p : Nat → Nat} {I : Nat → Nat → Int32} {J : Nat → Nat → Int64} (l1 : Int32) (s0 : Int32)  : ev d 137 16 [.ref 1, .int l1] [.int s0] (S sl p I J) = some (some (.int s0), (S sl p I J)) := by
  exact r_ret (dk D137 8 rfl) rt137
theorem E137_33 {d sl : Nat} {p : Nat → Nat} {I : Nat → Nat → Int32} {J : Nat → Nat → Int64} (l1 : Int32) (s0 : Int32)  : ev (d + 1) 137 33 [.ref 1, .int l1] [.int s0, .ref 1] (S sl p I J) = evK (d + 1) 137 36 [.ref 1, .int l1] [] (den d 163 [.ref 1, .int s0] (S sl p I J)) := by
  exact r_cv (dk D137 17 rfl) ow137 c11_92 mf163 (Nat.le_of_ble_eq_true rfl) rfl rfl (Nat.le_of_ble_eq_true rfl) (Nat.le_of_ble_eq_true rfl) ob_1
theorem E137_36 {d sl : Nat} {p : Nat → Nat} {I : Nat → Nat → Int32} {J : Nat → Nat → Int64} (l1 : Int32) (s0 : Int32)  : ev d 137 36 [.ref 1, .int l1] [.int s0] (S sl p I J) = some (some (.int s0), (S sl p I J)) := by
  exact r_ret (dk D137 18 rfl) rt137
set_option maxRecDepth 20000 in
theorem D138 : dOK 138 [(0, .iload_n 1, 1), (1, .iconst 0, 1), (2, .iconst 1, 1), (3, .invokestatic 121, 3), (6, .ifCond .ne 9, 3), (9, .aload_n 0, 1), (10, .iconst 1, 1), (11, .invokevirtual 81, 3), (14, .ireturn, 1), (15, .aload_n 0, 1), (16, .getfield 30, 3), (19, .invokevirtual 156, 3), (22, .aload_n 0, 1), (23, .getfield 30, 3), (26, .invokevirtual 232, 3), (29, .iload_n 1, 1), (30, .iconst 1, 1), (31, .if_icmp .ne 15, 3), (34, .aload_n 0, 1), (35, .aload_n 0, 1), (36, .getfield 30, 3), (39, .getfield 235, 3), (42, .invokevirtual 208, 3), (45, .ireturn, 1), (46, .aload_n 0, 1), (47, .aload_n 0, 1), (48, .getfield 30, 3), (51, .getfield 238, 3), (54, .invokevirtual 92, 3), (57, .ireturn, 1)] = true := by decide +kernel
theorem E138_0 {d sl : Nat} {p : Nat → Nat} {I : Nat → Nat → Int32} {J : Nat → Nat → Int64} (a1 : Int32)  : den (d + 1) 138 [.ref 1, .int a1] (S sl p I J) = evK (d + 1) 138 6 [.ref 1, .int a1] [] (den d 167 [.int a1, .int 0, .int 1] (S sl p I J)) := by
  refine (show den (d + 1) 138 [.ref 1, .int a1] (S sl p I J) = ev (d + 1) 138 0 [.ref 1, .int a1] [] (S sl p I J) from rfl).trans ?_
  refine (r_iln (dk D138 0 rfl) rfl).trans ?_
  refine (r_ic (dk D138 1 rfl) ci0).trans ?_
  refine (r_ic (dk D138 2 rfl) ci1).trans ?_
  exact r_cs (dk D138 3 rfl) ow138 pn11_121 c11_121 mf167 (Nat.le_of_ble_eq_true rfl) rfl rfl (Nat.le_of_ble_eq_true rfl) (Nat.le_of_ble_eq_true rfl)
theorem E138_6 {d sl : Nat} {p : Nat → Nat} {I : Nat → Nat → Int32} {J : Nat → Nat → Int64} (l1 : Int32) (s0 : Int32)  : ev (d + 1) 138 6 [.ref 1, .int l1] [.int s0] (S sl p I J) = (if s0 = 0 then evK (d + 1) 138 14 [.ref 1, .int l1] [] (den d 164 [.ref 1, .int 1] (S sl p I J)) else evK (d + 1) 138 22 [.ref 1, .int l1] [] (den d 97 [.ref 11] (S sl p I J))) := by
  refine (r_ne0 (dk D138 4 rfl) rfl).trans (ite2 ?_ ?_)
  · refine (r_aln (dk D138 5 rfl) rfl).trans ?_
    refine (r_ic (dk D138 6 rfl) ci1).trans ?_
    exact r_cv (dk D138 7 rfl) ow138 c11_81 mf164 (Nat.le_of_ble_eq_true rfl) rfl rfl (Nat.le_of_ble_eq_true rfl) (Nat.le_of_ble_eq_true rfl) ob_1
  · refine (r_aln (dk D138 9 rfl) rfl).trans ?_
    refine (r_getR (dk D138 10 rfl) ow138 q11_30 ob_1 rfl).trans ?_
    exact r_cv (dk D138 11 rfl) ow138 c11_156 mf97 (Nat.le_of_ble_eq_true rfl) rfl rfl (Nat.le_of_ble_eq_true rfl) (Nat.le_of_ble_eq_true rfl) ob_11
theorem E138_14 {d sl : Nat} {p : Nat → Nat} {I : Nat → Nat → Int32} {J : Nat → Nat → Int64} (l1 : Int32) (s0 : Int32)  : ev d 138 14 [.ref 1, .int l1] [.int s0] (S sl p I J) = some (some (.int s0), (S sl p I J)) := by
  exact r_ret (dk D138 8 rfl) rt138
theorem E138_22 {d sl : Nat} {p : Nat → Nat} {I : Nat → Nat → Int32} {J : Nat → Nat → Int64} (l1 : Int32)  : ev (d + 1) 138 22 [.ref 1, .int l1] [] (S sl p I J) = evK (d + 1) 138 29 [.ref 1, .int l1] [] (den d 95 [.ref 11] (S sl p I J)) := by
  refine (r_aln (dk D138 12 rfl) rfl).trans ?_
  refine (r_getR (dk D138 13 rfl) ow138 q11_30 ob_1 rfl).trans ?_
  exact r_cv (dk D138 14 rfl) ow138 c11_232 mf95 (Nat.le_of_ble_eq_true rfl) rfl rfl (Nat.le_of_ble_eq_true rfl) (Nat.le_of_ble_eq_true rfl) ob_11
theorem E138_29 {d sl : Nat} {p : Nat → Nat} {I : Nat → Nat → Int32} {J : Nat → Nat → Int64} (l1 : Int32)  : ev (d + 1) 138 29 [.ref 1, .int l1] [] (S sl p I J) = (if l1 = 1 then evK (d + 1) 138 45 [.ref 1, .int l1] [] (den d 165 [.ref 1, .int (I 11 18)] (S sl p I J)) else evK (d + 1) 138 57 [.ref 1, .int l1] [] (den d 163 [.ref 1, .int (I 11 17)] (S sl p I J))) := by
  refine (r_iln (dk D138 15 rfl) rfl).trans ?_
  refine (r_ic (dk D138 16 rfl) ci1).trans ?_
  refine (r_ne (dk D138 17 rfl) rfl).trans (ite2 ?_ ?_)
  · refine (r_aln (dk D138 18 rfl) rfl).trans ?_
    refine (r_aln (dk D138 19 rfl) rfl).trans ?_
    refine (r_getR (dk D138 20 rfl) ow138 q11_30 ob_1 rfl).trans ?_
    refine (r_getI (dk D138 21 rfl) ow138 q11_235 ob_11).trans ?_
    exact r_cv (dk D138 22 rfl) ow138 c11_208 mf165 (Nat.le_of_ble_eq_true rfl) rfl rfl (Nat.le_of_ble_eq_true rfl) (Nat.le_of_ble_eq_true rfl) ob_1
  · refine (r_aln (dk D138 24 rfl) rfl).trans ?_
    refine (r_aln (dk D138 25 rfl) rfl).trans ?_
    refine (r_getR (dk D138 26 rfl) ow138 q11_30 ob_1 rfl).trans ?_
    refine (r_getI (dk D138 27 rfl) ow138 q11_238 ob_11).trans ?_
    exact r_cv (dk D138 28 rfl) ow138 c11_92 mf163 (Nat.le_of_ble_eq_true rfl) rfl rfl (Nat.le_of_ble_eq_true rfl) (Nat.le_of_ble_eq_true rfl) ob_1
theorem E138_45 {d sl : Nat} {p : Nat → Nat} {I : Nat → Nat → Int32} {J : Nat → Nat → Int64} (l1 : Int32) (s0 : Int32)  : ev d 138 45 [.ref 1, .int l1] [.int s0] (S sl p I J) = some (some (.int s0), (S sl p I J)) := by
  exact r_ret (dk D138 23 rfl) rt138
theorem E138_57 {d sl : Nat} {p : Nat → Nat} {I : Nat → Nat → Int32} {J : Nat → Nat → Int64} (l1 : Int32) (s0 : Int32)  : ev d 138 57 [.ref 1, .int l1] [.int s0] (S sl p I J) = some (some (.int s0), (S sl p I J)) := by
  exact r_ret (dk D138 29 rfl) rt138
set_option maxRecDepth 20000 in
theorem D139 : dOK 139 [(0, .iload_n 2, 1), (1, .iconst 0, 1), (2, .iconst 1, 1), (3, .invokestatic 121, 3), (6, .ifCond .ne 9, 3), (9, .aload_n 0, 1), (10, .iconst 1, 1), (11, .invokevirtual 81, 3), (14, .ireturn, 1), (15, .aload_n 0, 1), (16, .getfield 21, 3), (19, .iload_n 1, 1), (20, .invokevirtual 114, 3), (23, .ifCond .ne 9, 3), (26, .aload_n 0, 1), (27, .iconst 2, 1), (28, .invokevirtual 81, 3), (31, .ireturn, 1), (32, .aload_n 0, 1), (33, .getfield 30, 3), (36, .invokevirtual 144, 3), (39, .aload_n 0, 1), (40, .getfield 21, 3), (43, .getfield 175, 3), (46, .iload_n 1, 1), (47, .aaload, 1), (48, .getfield 241, 3), (51, .astore_n 3, 1), (52, .aload_n 0, 1), (53, .getfield 10, 3), (56, .aload_n 3, 1), (57, .aload_n 0, 1), (58, .getfield 30, 3), (61, .getfield 244, 3), (64, .aload_n 0, 1), (65, .getfield 30, 3), (68, .getfield 163, 3), (71, .invokevirtual 248, 3), (74, .istore 4, 2), (76, .iload 4, 2), (78, .ifCond .ge 9, 3), (81, .aload_n 0, 1), (82, .iconst 5, 1), (83, .invokevirtual 81, 3), (86, .ireturn, 1), (87, .aload_n 0, 1), (88, .iload_n 2, 1), (89, .ifCond .ne 8, 3), (92, .iload 4, 2), (94, .goto 21, 3), (97, .aload_n 0, 1), (98, .getfield 10, 3), (101, .aload_n 3, 1), (102, .aload_n 0, 1), (103, .getfield 30, 3), (106, .getfield 244, 3), (109, .iload 4, 2), (111, .aaload, 1), (112, .invokevirtual 252, 3), (115, .invokevirtual 92, 3), (118, .ireturn, 1)] = true := by decide +kernel
theorem E139_0 {d sl : Nat} {p : Nat → Nat} {I : Nat → Nat → Int32} {J : Nat → Nat → Int64} (a1 : Int32) (a2 : Int32)  : den (d + 1) 139 [.ref 1, .int a1, .int a2] (S sl p I J) = evK (d + 1) 139 6 [.ref 1, .int a1, .int a2, .retAddr 0, .retAddr 0] [] (den d 167 [.int a2, .int 0, .int 1] (S sl p I J)) := by
  refine (show den (d + 1) 139 [.ref 1, .int a1, .int a2] (S sl p I J) = ev (d + 1) 139 0 [.ref 1, .int a1, .int a2, .retAddr 0, .retAddr 0] [] (S sl p I J) from rfl).trans ?_
  refine (r_iln (dk D139 0 rfl) rfl).trans ?_
  refine (r_ic (dk D139 1 rfl) ci0).trans ?_
  refine (r_ic (dk D139 2 rfl) ci1).trans ?_
  exact r_cs (dk D139 3 rfl) ow139 pn11_121 c11_121 mf167 (Nat.le_of_ble_eq_true rfl) rfl rfl (Nat.le_of_ble_eq_true rfl) (Nat.le_of_ble_eq_true rfl)
theorem E139_6 {d sl : Nat} {p : Nat → Nat} {I : Nat → Nat → Int32} {J : Nat → Nat → Int64} (l1 : Int32) (l2 : Int32) (s0 : Int32)  : ev (d + 1) 139 6 [.ref 1, .int l1, .int l2, .retAddr 0, .retAddr 0] [.int s0] (S sl p I J) = (if s0 = 0 then evK (d + 1) 139 14 [.ref 1, .int l1, .int l2, .retAddr 0, .retAddr 0] [] (den d 164 [.ref 1, .int 1] (S sl p I J)) else evK (d + 1) 139 23 [.ref 1, .int l1, .int l2, .retAddr 0, .retAddr 0] [] (den d 60 [.ref 4, .int l1] (S sl p I J))) := by
  refine (r_ne0 (dk D139 4 rfl) rfl).trans (ite2 ?_ ?_)
  · refine (r_aln (dk D139 5 rfl) rfl).trans ?_
    refine (r_ic (dk D139 6 rfl) ci1).trans ?_
    exact r_cv (dk D139 7 rfl) ow139 c11_81 mf164 (Nat.le_of_ble_eq_true rfl) rfl rfl (Nat.le_of_ble_eq_true rfl) (Nat.le_of_ble_eq_true rfl) ob_1
  · refine (r_aln (dk D139 9 rfl) rfl).trans ?_
    refine (r_getR (dk D139 10 rfl) ow139 q11_21 ob_1 rfl).trans ?_
    refine (r_iln (dk D139 11 rfl) rfl).trans ?_
    exact r_cv (dk D139 12 rfl) ow139 c11_114 mf60 (Nat.le_of_ble_eq_true rfl) rfl rfl (Nat.le_of_ble_eq_true rfl) (Nat.le_of_ble_eq_true rfl) ob_4
theorem E139_14 {d sl : Nat} {p : Nat → Nat} {I : Nat → Nat → Int32} {J : Nat → Nat → Int64} (l1 : Int32) (l2 : Int32) (s0 : Int32)  : ev d 139 14 [.ref 1, .int l1, .int l2, .retAddr 0, .retAddr 0] [.int s0] (S sl p I J) = some (some (.int s0), (S sl p I J)) := by
  exact r_ret (dk D139 8 rfl) rt139
theorem E139_23 {d sl : Nat} {p : Nat → Nat} {I : Nat → Nat → Int32} {J : Nat → Nat → Int64} (l1 : Int32) (l2 : Int32) (s0 : Int32)  : ev (d + 1) 139 23 [.ref 1, .int l1, .int l2, .retAddr 0, .retAddr 0] [.int s0] (S sl p I J) = (if s0 = 0 then evK (d + 1) 139 31 [.ref 1, .int l1, .int l2, .retAddr 0, .retAddr 0] [] (den d 164 [.ref 1, .int 2] (S sl p I J)) else evK (d + 1) 139 39 [.ref 1, .int l1, .int l2, .retAddr 0, .retAddr 0] [] (den d 104 [.ref 11] (S sl p I J))) := by
  refine (r_ne0 (dk D139 13 rfl) rfl).trans (ite2 ?_ ?_)
  · refine (r_aln (dk D139 14 rfl) rfl).trans ?_
    refine (r_ic (dk D139 15 rfl) ci2).trans ?_
    exact r_cv (dk D139 16 rfl) ow139 c11_81 mf164 (Nat.le_of_ble_eq_true rfl) rfl rfl (Nat.le_of_ble_eq_true rfl) (Nat.le_of_ble_eq_true rfl) ob_1
  · refine (r_aln (dk D139 18 rfl) rfl).trans ?_
    refine (r_getR (dk D139 19 rfl) ow139 q11_30 ob_1 rfl).trans ?_
    exact r_cv (dk D139 20 rfl) ow139 c11_144 mf104 (Nat.le_of_ble_eq_true rfl) rfl rfl (Nat.le_of_ble_eq_true rfl) (Nat.le_of_ble_eq_true rfl) ob_11
theorem E139_31 {d sl : Nat} {p : Nat → Nat} {I : Nat → Nat → Int32} {J : Nat → Nat → Int64} (l1 : Int32) (l2 : Int32) (s0 : Int32)  : ev d 139 31 [.ref 1, .int l1, .int l2, .retAddr 0, .retAddr 0] [.int s0] (S sl p I J) = some (some (.int s0), (S sl p I J)) := by
  exact r_ret (dk D139 17 rfl) rt139
theorem E139_39 {d sl : Nat} {p : Nat → Nat} {I : Nat → Nat → Int32} {J : Nat → Nat → Int64} (l1 : Int32) (l2 : Int32) (hp : ∀ k, p k < 60)  : ev (d + 1) 139 39 [.ref 1, .int l1, .int l2, .retAddr 0, .retAddr 0] [] (S sl p I J) = ck (ixb 60 l1) (evK (d + 1) 139 74 [.ref 1, .int l1, .int l2, .ref (300 + p (Int32.toNatClampNeg l1)), .retAddr 0] [] (den d 32 [.ref 2, .ref (300 + p (Int32.toNatClampNeg l1)), .ref 14, .int (I 11 14)] (S sl p I J))) := by
  refine (r_aln (dk D139 21 rfl) rfl).trans ?_
  refine (r_getR (dk D139 22 rfl) ow139 q11_21 ob_1 rfl).trans ?_
  refine (r_getR (dk D139 23 rfl) ow139 q11_175 ob_4 rfl).trans ?_
  refine (r_iln (dk D139 24 rfl) rfl).trans ?_
  refine (r_ald (dk D139 25 rfl) ar_9 (by decide) rfA9).trans (ck3 fun g1 => ?_)
  refine (r_getR (dk D139 26 rfl) ow139 q11_241 (obC (hp (Int32.toNatClampNeg l1))) (rfC (hp (Int32.toNatClampNeg l1)))).trans ?_
  refine (r_asn (L' := [.ref 1, .int l1, .int l2, .ref (300 + p (Int32.toNatClampNeg l1)), .retAddr 0]) (dk D139 27 rfl) (Nat.le_of_ble_eq_true rfl) rfl).trans ?_
  refine (r_aln (dk D139 28 rfl) rfl).trans ?_
  refine (r_getR (dk D139 29 rfl) ow139 q11_10 ob_1 rfl).trans ?_
  refine (r_aln (dk D139 30 rfl) rfl).trans ?_
  refine (r_aln (dk D139 31 rfl) rfl).trans ?_
  refine (r_getR (dk D139 32 rfl) ow139 q11_30 ob_1 rfl).trans ?_
  refine (r_getR (dk D139 33 rfl) ow139 q11_244 ob_11 rfl).trans ?_
  refine (r_aln (dk D139 34 rfl) rfl).trans ?_
  refine (r_getR (dk D139 35 rfl) ow139 q11_30 ob_1 rfl).trans ?_
  refine (r_getI (dk D139 36 rfl) ow139 q11_163 ob_11).trans ?_
  exact r_cv (dk D139 37 rfl) ow139 c11_248 mf32 (Nat.le_of_ble_eq_true rfl) rfl rfl (Nat.le_of_ble_eq_true rfl) (Nat.le_of_ble_eq_true rfl) ob_2
theorem E139_74 {d sl : Nat} {p : Nat → Nat} {I : Nat → Nat → Int32} {J : Nat → Nat → Int64} (l1 : Int32) (l2 : Int32) {l3 : Nat} (s0 : Int32) (hl3 : ob l3 0) : ev (d + 1) 139 74 [.ref 1, .int l1, .int l2, .ref l3, .retAddr 0] [.int s0] (S sl p I J) = (if s0 < 0 then evK (d + 1) 139 86 [.ref 1, .int l1, .int l2, .ref l3, .int s0] [] (den d 164 [.ref 1, .int 5] (S sl p I J)) else (if l2 = 0 then ev (d + 1) 139 115 [.ref 1, .int l1, .int l2, .ref l3, .int s0] [.int s0, .ref 1] (S sl p I J) else ck (ixb 30 s0) (evK (d + 1) 139 115 [.ref 1, .int l1, .int l2, .ref l3, .int s0] [.ref 1] (den d 31 [.ref 2, .ref l3, .ref (800 + (Int32.toNatClampNeg s0))] (S sl p I J))))) := by
  refine (r_is (L' := [.ref 1, .int l1, .int l2, .ref l3, .int s0]) (dk D139 38 rfl) (Nat.le_of_ble_eq_true rfl) rfl).trans ?_
  refine (r_il (dk D139 39 rfl) rfl).trans ?_
  refine (r_ge0 (dk D139 40 rfl) rfl).trans (ite2 ?_ ?_)
  · refine (r_aln (dk D139 41 rfl) rfl).trans ?_
    refine (r_ic (dk D139 42 rfl) ci5).trans ?_
    exact r_cv (dk D139 43 rfl) ow139 c11_81 mf164 (Nat.le_of_ble_eq_true rfl) rfl rfl (Nat.le_of_ble_eq_true rfl) (Nat.le_of_ble_eq_true rfl) ob_1
  · refine (r_aln (dk D139 45 rfl) rfl).trans ?_
    refine (r_iln (dk D139 46 rfl) rfl).trans ?_
    refine (r_ne0 (dk D139 47 rfl) rfl).trans (ite2 ?_ ?_)
    · refine (r_il (dk D139 48 rfl) rfl).trans ?_
      refine (r_goto (L' := [.ref 1, .int l1, .int l2, .ref l3, .int s0]) (dk D139 49 rfl) rfl nd139_115 rfl).trans ?_
      exact rfl
    · refine (r_aln (dk D139 50 rfl) rfl).trans ?_
      refine (r_getR (dk D139 51 rfl) ow139 q11_10 ob_1 rfl).trans ?_
      refine (r_aln (dk D139 52 rfl) rfl).trans ?_
      refine (r_aln (dk D139 53 rfl) rfl).trans ?_
      refine (r_getR (dk D139 54 rfl) ow139 q11_30 ob_1 rfl).trans ?_
      refine (r_getR (dk D139 55 rfl) ow139 q11_244 ob_11 rfl).trans ?_
      refine (r_il (dk D139 56 rfl) rfl).trans ?_
      refine (r_ald (dk D139 57 rfl) ar_14 (by decide) rfA14).trans (ck3 fun g1 => ?_)
      exact r_cv (dk D139 58 rfl) ow139 c11_252 mf31 (Nat.le_of_ble_eq_true rfl) rfl rfl (Nat.le_of_ble_eq_true rfl) (Nat.le_of_ble_eq_true rfl) ob_2
theorem E139_86 {d sl : Nat} {p : Nat → Nat} {I : Nat → Nat → Int32} {J : Nat → Nat → Int64} (l1 : Int32) (l2 : Int32) {l3 : Nat} (l4 : Int32) (s0 : Int32) (hl3 : ob l3 0) : ev d 139 86 [.ref 1, .int l1, .int l2, .ref l3, .int l4] [.int s0] (S sl p I J) = some (some (.int s0), (S sl p I J)) := by
  exact r_ret (dk D139 44 rfl) rt139
theorem E139_115 {d sl : Nat} {p : Nat → Nat} {I : Nat → Nat → Int32} {J : Nat → Nat → Int64} (l1 : Int32) (l2 : Int32) {l3 : Nat} (l4 : Int32) (s0 : Int32) (hl3 : ob l3 0) : ev (d + 1) 139 115 [.ref 1, .int l1, .int l2, .ref l3, .int l4] [.int s0, .ref 1] (S sl p I J) = evK (d + 1) 139 118 [.ref 1, .int l1, .int l2, .ref l3, .int l4] [] (den d 163 [.ref 1, .int s0] (S sl p I J)) := by
  exact r_cv (dk D139 59 rfl) ow139 c11_92 mf163 (Nat.le_of_ble_eq_true rfl) rfl rfl (Nat.le_of_ble_eq_true rfl) (Nat.le_of_ble_eq_true rfl) ob_1
theorem E139_118 {d sl : Nat} {p : Nat → Nat} {I : Nat → Nat → Int32} {J : Nat → Nat → Int64} (l1 : Int32) (l2 : Int32) {l3 : Nat} (l4 : Int32) (s0 : Int32) (hl3 : ob l3 0) : ev d 139 118 [.ref 1, .int l1, .int l2, .ref l3, .int l4] [.int s0] (S sl p I J) = some (some (.int s0), (S sl p I J)) := by
  exact r_ret (dk D139 60 rfl) rt139
set_option maxRecDepth 20000 in
theorem D140 : dOK 140 [(0, .iload_n 1, 1), (1, .iconst 1, 1), (2, .bipush 45, 2), (4, .invokestatic 121, 3), (7, .ifCond .ne 9, 3), (10, .aload_n 0, 1), (11, .iconst 1, 1), (12, .invokevirtual 81, 3), (15, .ireturn, 1), (16, .aload_n 0, 1), (17, .getfield 30, 3), (20, .invokevirtual 156, 3), (23, .aload_n 0, 1), (24, .aload_n 0, 1), (25, .getfield 30, 3), (28, .iload_n 1, 1), (29, .invokevirtual 256, 3), (32, .invokevirtual 92, 3), (35, .ireturn, 1)] = true := by decide +kernel
theorem E140_0 {d sl : Nat} {p : Nat → Nat} {I : Nat → Nat → Int32} {J : Nat → Nat → Int64} (a1 : Int32)  : den (d + 1) 140 [.ref 1, .int a1] (S sl p I J) = evK (d + 1) 140 7 [.ref 1, .int a1] [] (den d 167 [.int a1, .int 1, .int 45] (S sl p I J)) := by
  refine (show den (d + 1) 140 [.ref 1, .int a1] (S sl p I J) = ev (d + 1) 140 0 [.ref 1, .int a1] [] (S sl p I J) from rfl).trans ?_
  refine (r_iln (dk D140 0 rfl) rfl).trans ?_
  refine (r_ic (dk D140 1 rfl) ci1).trans ?_
  refine (r_bp (dk D140 2 rfl) cb45).trans ?_
  exact r_cs (dk D140 3 rfl) ow140 pn11_121 c11_121 mf167 (Nat.le_of_ble_eq_true rfl) rfl rfl (Nat.le_of_ble_eq_true rfl) (Nat.le_of_ble_eq_true rfl)
theorem E140_7 {d sl : Nat} {p : Nat → Nat} {I : Nat → Nat → Int32} {J : Nat → Nat → Int64} (l1 : Int32) (s0 : Int32)  : ev (d + 1) 140 7 [.ref 1, .int l1] [.int s0] (S sl p I J) = (if s0 = 0 then evK (d + 1) 140 15 [.ref 1, .int l1] [] (den d 164 [.ref 1, .int 1] (S sl p I J)) else evK (d + 1) 140 23 [.ref 1, .int l1] [] (den d 97 [.ref 11] (S sl p I J))) := by
  refine (r_ne0 (dk D140 4 rfl) rfl).trans (ite2 ?_ ?_)
  · refine (r_aln (dk D140 5 rfl) rfl).trans ?_
    refine (r_ic (dk D140 6 rfl) ci1).trans ?_
    exact r_cv (dk D140 7 rfl) ow140 c11_81 mf164 (Nat.le_of_ble_eq_true rfl) rfl rfl (Nat.le_of_ble_eq_true rfl) (Nat.le_of_ble_eq_true rfl) ob_1
  · refine (r_aln (dk D140 9 rfl) rfl).trans ?_
    refine (r_getR (dk D140 10 rfl) ow140 q11_30 ob_1 rfl).trans ?_
    exact r_cv (dk D140 11 rfl) ow140 c11_156 mf97 (Nat.le_of_ble_eq_true rfl) rfl rfl (Nat.le_of_ble_eq_true rfl) (Nat.le_of_ble_eq_true rfl) ob_11
theorem E140_15 {d sl : Nat} {p : Nat → Nat} {I : Nat → Nat → Int32} {J : Nat → Nat → Int64} (l1 : Int32) (s0 : Int32)  : ev d 140 15 [.ref 1, .int l1] [.int s0] (S sl p I J) = some (some (.int s0), (S sl p I J)) := by
  exact r_ret (dk D140 8 rfl) rt140
theorem E140_23 {d sl : Nat} {p : Nat → Nat} {I : Nat → Nat → Int32} {J : Nat → Nat → Int64} (l1 : Int32)  : ev (d + 1) 140 23 [.ref 1, .int l1] [] (S sl p I J) = evK (d + 1) 140 32 [.ref 1, .int l1] [.ref 1] (den d 92 [.ref 11, .int l1] (S sl p I J)) := by
  refine (r_aln (dk D140 12 rfl) rfl).trans ?_
  refine (r_aln (dk D140 13 rfl) rfl).trans ?_
  refine (r_getR (dk D140 14 rfl) ow140 q11_30 ob_1 rfl).trans ?_
  refine (r_iln (dk D140 15 rfl) rfl).trans ?_
  exact r_cv (dk D140 16 rfl) ow140 c11_256 mf92 (Nat.le_of_ble_eq_true rfl) rfl rfl (Nat.le_of_ble_eq_true rfl) (Nat.le_of_ble_eq_true rfl) ob_11
theorem E140_32 {d sl : Nat} {p : Nat → Nat} {I : Nat → Nat → Int32} {J : Nat → Nat → Int64} (l1 : Int32) (s0 : Int32)  : ev (d + 1) 140 32 [.ref 1, .int l1] [.int s0, .ref 1] (S sl p I J) = evK (d + 1) 140 35 [.ref 1, .int l1] [] (den d 163 [.ref 1, .int s0] (S sl p I J)) := by
  exact r_cv (dk D140 17 rfl) ow140 c11_92 mf163 (Nat.le_of_ble_eq_true rfl) rfl rfl (Nat.le_of_ble_eq_true rfl) (Nat.le_of_ble_eq_true rfl) ob_1
theorem E140_35 {d sl : Nat} {p : Nat → Nat} {I : Nat → Nat → Int32} {J : Nat → Nat → Int64} (l1 : Int32) (s0 : Int32)  : ev d 140 35 [.ref 1, .int l1] [.int s0] (S sl p I J) = some (some (.int s0), (S sl p I J)) := by
  exact r_ret (dk D140 18 rfl) rt140
set_option maxRecDepth 20000 in
theorem D141 : dOK 141 [(0, .iload_n 1, 1), (1, .ifCond .ge 9, 3), (4, .aload_n 0, 1), (5, .iconst 1, 1), (6, .invokevirtual 81, 3), (9, .ireturn, 1), (10, .aload_n 0, 1), (11, .getfield 30, 3), (14, .invokevirtual 156, 3), (17, .iconst 1, 1), (18, .istore_n 2, 1), (19, .iload_n 2, 1), (20, .bipush 45, 2), (22, .if_icmp .gt 27, 3), (25, .aload_n 0, 1), (26, .getfield 30, 3), (29, .iload_n 2, 1), (30, .invokevirtual 256, 3), (33, .iload_n 1, 1), (34, .if_icmp .ne 9, 3), (37, .aload_n 0, 1), (38, .iload_n 2, 1), (39, .invokevirtual 92, 3), (42, .ireturn, 1), (43, .iinc 2 1, 3), (46, .goto (-27), 3), (49, .aload_n 0, 1), (50, .iconst 5, 1), (51, .invokevirtual 81, 3), (54, .ireturn, 1)] = true := by decide +kernel
theorem E141_0 {d sl : Nat} {p : Nat → Nat} {I : Nat → Nat → Int32} {J : Nat → Nat → Int64} (a1 : Int32)  : den (d + 1) 141 [.ref 1, .int a1] (S sl p I J) = (if a1 < 0 then evK (d + 1) 141 9 [.ref 1, .int a1, .retAddr 0] [] (den d 164 [.ref 1, .int 1] (S sl p I J)) else evK (d + 1) 141 17 [.ref 1, .int a1, .retAddr 0] [] (den d 97 [.ref 11] (S sl p I J))) := by
  refine (show den (d + 1) 141 [.ref 1, .int a1] (S sl p I J) = ev (d + 1) 141 0 [.ref 1, .int a1, .retAddr 0] [] (S sl p I J) from rfl).trans ?_
  refine (r_iln (dk D141 0 rfl) rfl).trans ?_
  refine (r_ge0 (dk D141 1 rfl) rfl).trans (ite2 ?_ ?_)
  · refine (r_aln (dk D141 2 rfl) rfl).trans ?_
    refine (r_ic (dk D141 3 rfl) ci1).trans ?_
    exact r_cv (dk D141 4 rfl) ow141 c11_81 mf164 (Nat.le_of_ble_eq_true rfl) rfl rfl (Nat.le_of_ble_eq_true rfl) (Nat.le_of_ble_eq_true rfl) ob_1
  · refine (r_aln (dk D141 6 rfl) rfl).trans ?_
    refine (r_getR (dk D141 7 rfl) ow141 q11_30 ob_1 rfl).trans ?_
    exact r_cv (dk D141 8 rfl) ow141 c11_156 mf97 (Nat.le_of_ble_eq_true rfl) rfl rfl (Nat.le_of_ble_eq_true rfl) (Nat.le_of_ble_eq_true rfl) ob_11
theorem E141_9 {d sl : Nat} {p : Nat → Nat} {I : Nat → Nat → Int32} {J : Nat → Nat → Int64} (l1 : Int32) (s0 : Int32)  : ev d 141 9 [.ref 1, .int l1, .retAddr 0] [.int s0] (S sl p I J) = some (some (.int s0), (S sl p I J)) := by
  exact r_ret (dk D141 5 rfl) rt141
theorem E141_17 {d sl : Nat} {p : Nat → Nat} {I : Nat → Nat → Int32} {J : Nat → Nat → Int64} (l1 : Int32)  : ev d 141 17 [.ref 1, .int l1, .retAddr 0] [] (S sl p I J) = ev d 141 19 [.ref 1, .int l1, .int 1] [] (S sl p I J) := by
  refine (r_ic (dk D141 9 rfl) ci1).trans ?_
  refine (r_isn (L' := [.ref 1, .int l1, .int 1]) (dk D141 10 rfl) (Nat.le_of_ble_eq_true rfl) rfl).trans ?_
  exact rfl
theorem E141_19 {d sl : Nat} {p : Nat → Nat} {I : Nat → Nat → Int32} {J : Nat → Nat → Int64} (l1 : Int32) (l2 : Int32)  : ev (d + 1) 141 19 [.ref 1, .int l1, .int l2] [] (S sl p I J) = (if l2 ≤ 45 then evK (d + 1) 141 33 [.ref 1, .int l1, .int l2] [] (den d 92 [.ref 11, .int l2] (S sl p I J)) else evK (d + 1) 141 54 [.ref 1, .int l1, .int l2] [] (den d 164 [.ref 1, .int 5] (S sl p I J))) := by
  refine (r_iln (dk D141 11 rfl) rfl).trans ?_
  refine (r_bp (dk D141 12 rfl) cb45).trans ?_
  refine (r_gt (dk D141 13 rfl) rfl).trans (ite2 ?_ ?_)
  · refine (r_aln (dk D141 14 rfl) rfl).trans ?_
    refine (r_getR (dk D141 15 rfl) ow141 q11_30 ob_1 rfl).trans ?_
    refine (r_iln (dk D141 16 rfl) rfl).trans ?_
    exact r_cv (dk D141 17 rfl) ow141 c11_256 mf92 (Nat.le_of_ble_eq_true rfl) rfl rfl (Nat.le_of_ble_eq_true rfl) (Nat.le_of_ble_eq_true rfl) ob_11
  · refine (r_aln (dk D141 26 rfl) rfl).trans ?_
    refine (r_ic (dk D141 27 rfl) ci5).trans ?_
    exact r_cv (dk D141 28 rfl) ow141 c11_81 mf164 (Nat.le_of_ble_eq_true rfl) rfl rfl (Nat.le_of_ble_eq_true rfl) (Nat.le_of_ble_eq_true rfl) ob_1
theorem E141_33 {d sl : Nat} {p : Nat → Nat} {I : Nat → Nat → Int32} {J : Nat → Nat → Int64} (l1 : Int32) (l2 : Int32) (s0 : Int32)  : ev (d + 1) 141 33 [.ref 1, .int l1, .int l2] [.int s0] (S sl p I J) = (if s0 = l1 then evK (d + 1) 141 42 [.ref 1, .int l1, .int l2] [] (den d 163 [.ref 1, .int l2] (S sl p I J)) else ev (d + 1) 141 19 [.ref 1, .int l1, .int (l2 + 1)] [] (S sl p I J)) := by
  refine (r_iln (dk D141 18 rfl) rfl).trans ?_
  refine (r_ne (dk D141 19 rfl) rfl).trans (ite2 ?_ ?_)
  · refine (r_aln (dk D141 20 rfl) rfl).trans ?_
    refine (r_iln (dk D141 21 rfl) rfl).trans ?_
    exact r_cv (dk D141 22 rfl) ow141 c11_92 mf163 (Nat.le_of_ble_eq_true rfl) rfl rfl (Nat.le_of_ble_eq_true rfl) (Nat.le_of_ble_eq_true rfl) ob_1
  · refine (r_inc (L' := [.ref 1, .int l1, .int (l2 + 1)]) (dk D141 24 rfl) rfl rfl ci1 (Nat.le_of_ble_eq_true rfl) rfl).trans ?_
    refine (r_goto (L' := [.ref 1, .int l1, .int (l2 + 1)]) (dk D141 25 rfl) rfl nd141_19 rfl).trans ?_
    exact rfl
theorem E141_42 {d sl : Nat} {p : Nat → Nat} {I : Nat → Nat → Int32} {J : Nat → Nat → Int64} (l1 : Int32) (l2 : Int32) (s0 : Int32)  : ev d 141 42 [.ref 1, .int l1, .int l2] [.int s0] (S sl p I J) = some (some (.int s0), (S sl p I J)) := by
  exact r_ret (dk D141 23 rfl) rt141
theorem E141_54 {d sl : Nat} {p : Nat → Nat} {I : Nat → Nat → Int32} {J : Nat → Nat → Int64} (l1 : Int32) (l2 : Int32) (s0 : Int32)  : ev d 141 54 [.ref 1, .int l1, .int l2] [.int s0] (S sl p I J) = some (some (.int s0), (S sl p I J)) := by
  exact r_ret (dk D141 29 rfl) rt141
set_option maxRecDepth 20000 in
theorem D142 : dOK 142 [(0, .iload_n 1, 1), (1, .iconst 1, 1), (2, .bipush 90, 2), (4, .invokestatic 121, 3), (7, .ifCond .eq 12, 3), (10, .iload_n 2, 1), (11, .iconst 0, 1), (12, .iconst 2, 1), (13, .invokestatic 121, 3), (16, .ifCond .ne 9, 3), (19, .aload_n 0, 1), (20, .iconst 1, 1), (21, .invokevirtual 81, 3), (24, .ireturn, 1), (25, .aload_n 0, 1), (26, .getfield 30, 3), (29, .invokevirtual 144, 3), (32, .aload_n 0, 1), (33, .getfield 39, 3), (36, .iload_n 1, 1), (37, .invokevirtual 259, 3), (40, .iload_n 2, 1), (41, .ifCond .ne 15, 3), (44, .aload_n 0, 1), (45, .aload_n 0, 1), (46, .getfield 39, 3), (49, .getfield 262, 3), (52, .invokevirtual 92, 3), (55, .ireturn, 1), (56, .aload_n 0, 1), (57, .iload_n 2, 1), (58, .iconst 1, 1), (59, .if_icmp .ne 13, 3), (62, .aload_n 0, 1), (63, .getfield 39, 3), (66, .invokevirtual 265, 3), (69, .goto 10, 3), (72, .aload_n 0, 1), (73, .getfield 39, 3), (76, .invokevirtual 268, 3), (79, .invokevirtual 92, 3), (82, .ireturn, 1)] = true := by decide +kernel
theorem E142_0 {d sl : Nat} {p : Nat → Nat} {I : Nat → Nat → Int32} {J : Nat → Nat → Int64} (a1 : Int32) (a2 : Int32)  : den (d + 1) 142 [.ref 1, .int a1, .int a2] (S sl p I J) = evK (d + 1) 142 7 [.ref 1, .int a1, .int a2] [] (den d 167 [.int a1, .int 1, .int 90] (S sl p I J)) := by
  refine (show den (d + 1) 142 [.ref 1, .int a1, .int a2] (S sl p I J) = ev (d + 1) 142 0 [.ref 1, .int a1, .int a2] [] (S sl p I J) from rfl).trans ?_
  refine (r_iln (dk D142 0 rfl) rfl).trans ?_
  refine (r_ic (dk D142 1 rfl) ci1).trans ?_
  refine (r_bp (dk D142 2 rfl) cb90).trans ?_
  exact r_cs (dk D142 3 rfl) ow142 pn11_121 c11_121 mf167 (Nat.le_of_ble_eq_true rfl) rfl rfl (Nat.le_of_ble_eq_true rfl) (Nat.le_of_ble_eq_true rfl)
theorem E142_7 {d sl : Nat} {p : Nat → Nat} {I : Nat → Nat → Int32} {J : Nat → Nat → Int64} (l1 : Int32) (l2 : Int32) (s0 : Int32)  : ev (d + 1) 142 7 [.ref 1, .int l1, .int l2] [.int s0] (S sl p I J) = (if s0 = 0 then ev (d + 1) 142 19 [.ref 1, .int l1, .int l2] [] (S sl p I J) else evK (d + 1) 142 16 [.ref 1, .int l1, .int l2] [] (den d 167 [.int l2, .int 0, .int 2] (S sl p I J))) := by
  refine (r_eq0 (dk D142 4 rfl) rfl).trans (ite2 ?_ ?_)
  · exact rfl
  · refine (r_iln (dk D142 5 rfl) rfl).trans ?_
    refine (r_ic (dk D142 6 rfl) ci0).trans ?_
    refine (r_ic (dk D142 7 rfl) ci2).trans ?_
    exact r_cs (dk D142 8 rfl) ow142 pn11_121 c11_121 mf167 (Nat.le_of_ble_eq_true rfl) rfl rfl (Nat.le_of_ble_eq_true rfl) (Nat.le_of_ble_eq_true rfl)
theorem E142_16 {d sl : Nat} {p : Nat → Nat} {I : Nat → Nat → Int32} {J : Nat → Nat → Int64} (l1 : Int32) (l2 : Int32) (s0 : Int32)  : ev (d + 1) 142 16 [.ref 1, .int l1, .int l2] [.int s0] (S sl p I J) = (if s0 = 0 then ev (d + 1) 142 19 [.ref 1, .int l1, .int l2] [] (S sl p I J) else evK (d + 1) 142 32 [.ref 1, .int l1, .int l2] [] (den d 104 [.ref 11] (S sl p I J))) := by
  refine (r_ne0 (dk D142 9 rfl) rfl).trans (ite2 ?_ ?_)
  · exact rfl
  · refine (r_aln (dk D142 14 rfl) rfl).trans ?_
    refine (r_getR (dk D142 15 rfl) ow142 q11_30 ob_1 rfl).trans ?_
    exact r_cv (dk D142 16 rfl) ow142 c11_144 mf104 (Nat.le_of_ble_eq_true rfl) rfl rfl (Nat.le_of_ble_eq_true rfl) (Nat.le_of_ble_eq_true rfl) ob_11
theorem E142_19 {d sl : Nat} {p : Nat → Nat} {I : Nat → Nat → Int32} {J : Nat → Nat → Int64} (l1 : Int32) (l2 : Int32)  : ev (d + 1) 142 19 [.ref 1, .int l1, .int l2] [] (S sl p I J) = evK (d + 1) 142 24 [.ref 1, .int l1, .int l2] [] (den d 164 [.ref 1, .int 1] (S sl p I J)) := by
  refine (r_aln (dk D142 10 rfl) rfl).trans ?_
  refine (r_ic (dk D142 11 rfl) ci1).trans ?_
  exact r_cv (dk D142 12 rfl) ow142 c11_81 mf164 (Nat.le_of_ble_eq_true rfl) rfl rfl (Nat.le_of_ble_eq_true rfl) (Nat.le_of_ble_eq_true rfl) ob_1
theorem E142_24 {d sl : Nat} {p : Nat → Nat} {I : Nat → Nat → Int32} {J : Nat → Nat → Int64} (l1 : Int32) (l2 : Int32) (s0 : Int32)  : ev d 142 24 [.ref 1, .int l1, .int l2] [.int s0] (S sl p I J) = some (some (.int s0), (S sl p I J)) := by
  exact r_ret (dk D142 13 rfl) rt142
theorem E142_32 {d sl : Nat} {p : Nat → Nat} {I : Nat → Nat → Int32} {J : Nat → Nat → Int64} (l1 : Int32) (l2 : Int32)  : ev (d + 1) 142 32 [.ref 1, .int l1, .int l2] [] (S sl p I J) = evK (d + 1) 142 40 [.ref 1, .int l1, .int l2] [] (den d 39 [.ref 22, .int l1] (S sl p I J)) := by
  refine (r_aln (dk D142 17 rfl) rfl).trans ?_
  refine (r_getR (dk D142 18 rfl) ow142 q11_39 ob_1 rfl).trans ?_
  refine (r_iln (dk D142 19 rfl) rfl).trans ?_
  exact r_cv (dk D142 20 rfl) ow142 c11_259 mf39 (Nat.le_of_ble_eq_true rfl) rfl rfl (Nat.le_of_ble_eq_true rfl) (Nat.le_of_ble_eq_true rfl) ob_22
theorem E142_40 {d sl : Nat} {p : Nat → Nat} {I : Nat → Nat → Int32} {J : Nat → Nat → Int64} (l1 : Int32) (l2 : Int32)  : ev (d + 1) 142 40 [.ref 1, .int l1, .int l2] [] (S sl p I J) = (if l2 = 0 then evK (d + 1) 142 55 [.ref 1, .int l1, .int l2] [] (den d 163 [.ref 1, .int (I 22 6)] (S sl p I J)) else (if l2 = 1 then evK (d + 1) 142 69 [.ref 1, .int l1, .int l2] [.ref 1] (den d 44 [.ref 22] (S sl p I J)) else evK (d + 1) 142 79 [.ref 1, .int l1, .int l2] [.ref 1] (den d 45 [.ref 22] (S sl p I J)))) := by
  refine (r_iln (dk D142 21 rfl) rfl).trans ?_
  refine (r_ne0 (dk D142 22 rfl) rfl).trans (ite2 ?_ ?_)
  · refine (r_aln (dk D142 23 rfl) rfl).trans ?_
    refine (r_aln (dk D142 24 rfl) rfl).trans ?_
    refine (r_getR (dk D142 25 rfl) ow142 q11_39 ob_1 rfl).trans ?_
    refine (r_getI (dk D142 26 rfl) ow142 q11_262 ob_22).trans ?_
    exact r_cv (dk D142 27 rfl) ow142 c11_92 mf163 (Nat.le_of_ble_eq_true rfl) rfl rfl (Nat.le_of_ble_eq_true rfl) (Nat.le_of_ble_eq_true rfl) ob_1
  · refine (r_aln (dk D142 29 rfl) rfl).trans ?_
    refine (r_iln (dk D142 30 rfl) rfl).trans ?_
    refine (r_ic (dk D142 31 rfl) ci1).trans ?_
    refine (r_ne (dk D142 32 rfl) rfl).trans (ite2 ?_ ?_)
    · refine (r_aln (dk D142 33 rfl) rfl).trans ?_
      refine (r_getR (dk D142 34 rfl) ow142 q11_39 ob_1 rfl).trans ?_
      exact r_cv (dk D142 35 rfl) ow142 c11_265 mf44 (Nat.le_of_ble_eq_true rfl) rfl rfl (Nat.le_of_ble_eq_true rfl) (Nat.le_of_ble_eq_true rfl) ob_22
    · refine (r_aln (dk D142 37 rfl) rfl).trans ?_
      refine (r_getR (dk D142 38 rfl) ow142 q11_39 ob_1 rfl).trans ?_
      exact r_cv (dk D142 39 rfl) ow142 c11_268 mf45 (Nat.le_of_ble_eq_true rfl) rfl rfl (Nat.le_of_ble_eq_true rfl) (Nat.le_of_ble_eq_true rfl) ob_22
theorem E142_55 {d sl : Nat} {p : Nat → Nat} {I : Nat → Nat → Int32} {J : Nat → Nat → Int64} (l1 : Int32) (l2 : Int32) (s0 : Int32)  : ev d 142 55 [.ref 1, .int l1, .int l2] [.int s0] (S sl p I J) = some (some (.int s0), (S sl p I J)) := by
  exact r_ret (dk D142 28 rfl) rt142
theorem E142_69 {d sl : Nat} {p : Nat → Nat} {I : Nat → Nat → Int32} {J : Nat → Nat → Int64} (l1 : Int32) (l2 : Int32) (s0 : Int32)  : ev d 142 69 [.ref 1, .int l1, .int l2] [.int s0, .ref 1] (S sl p I J) = ev d 142 79 [.ref 1, .int l1, .int l2] [.int s0, .ref 1] (S sl p I J) := by
  refine (r_goto (L' := [.ref 1, .int l1, .int l2]) (dk D142 36 rfl) rfl nd142_79 rfl).trans ?_
  exact rfl
theorem E142_79 {d sl : Nat} {p : Nat → Nat} {I : Nat → Nat → Int32} {J : Nat → Nat → Int64} (l1 : Int32) (l2 : Int32) (s0 : Int32)  : ev (d + 1) 142 79 [.ref 1, .int l1, .int l2] [.int s0, .ref 1] (S sl p I J) = evK (d + 1) 142 82 [.ref 1, .int l1, .int l2] [] (den d 163 [.ref 1, .int s0] (S sl p I J)) := by
  exact r_cv (dk D142 40 rfl) ow142 c11_92 mf163 (Nat.le_of_ble_eq_true rfl) rfl rfl (Nat.le_of_ble_eq_true rfl) (Nat.le_of_ble_eq_true rfl) ob_1
theorem E142_82 {d sl : Nat} {p : Nat → Nat} {I : Nat → Nat → Int32} {J : Nat → Nat → Int64} (l1 : Int32) (l2 : Int32) (s0 : Int32)  : ev d 142 82 [.ref 1, .int l1, .int l2] [.int s0] (S sl p I J) = some (some (.int s0), (S sl p I J)) := by
  exact r_ret (dk D142 41 rfl) rt142
set_option maxRecDepth 20000 in
theorem D143 : dOK 143 [(0, .iload_n 1, 1), (1, .iconst 1, 1), (2, .bipush 90, 2), (4, .invokestatic 121, 3), (7, .ifCond .ne 9, 3), (10, .aload_n 0, 1), (11, .iconst 1, 1), (12, .invokevirtual 81, 3), (15, .ireturn, 1), (16, .aload_n 0, 1), (17, .getfield 21, 3), (20, .iload_n 2, 1), (21, .invokevirtual 114, 3), (24, .ifCond .ne 9, 3), (27, .aload_n 0, 1), (28, .iconst 2, 1), (29, .invokevirtual 81, 3), (32, .ireturn, 1), (33, .aload_n 0, 1), (34, .getfield 30, 3), (37, .invokevirtual 144, 3), (40, .aload_n 0, 1), (41, .getfield 39, 3), (44, .iload_n 1, 1), (45, .invokevirtual 259, 3), (48, .aload_n 0, 1), (49, .aload_n 0, 1), (50, .getfield 39, 3), (53, .getfield 271, 3), (56, .iload_n 2, 1), (57, .iaload, 1), (58, .invokevirtual 92, 3), (61, .ireturn, 1)] = true := by decide +kernel
theorem E143_0 {d sl : Nat} {p : Nat → Nat} {I : Nat → Nat → Int32} {J : Nat → Nat → Int64} (a1 : Int32) (a2 : Int32)  : den (d + 1) 143 [.ref 1, .int a1, .int a2] (S sl p I J) = evK (d + 1) 143 7 [.ref 1, .int a1, .int a2] [] (den d 167 [.int a1, .int 1, .int 90] (S sl p I J)) := by
  refine (show den (d + 1) 143 [.ref 1, .int a1, .int a2] (S sl p I J) = ev (d + 1) 143 0 [.ref 1, .int a1, .int a2] [] (S sl p I J) from rfl).trans ?_
  refine (r_iln (dk D143 0 rfl) rfl).trans ?_
  refine (r_ic (dk D143 1 rfl) ci1).trans ?_
  refine (r_bp (dk D143 2 rfl) cb90).trans ?_
  exact r_cs (dk D143 3 rfl) ow143 pn11_121 c11_121 mf167 (Nat.le_of_ble_eq_true rfl) rfl rfl (Nat.le_of_ble_eq_true rfl) (Nat.le_of_ble_eq_true rfl)
theorem E143_7 {d sl : Nat} {p : Nat → Nat} {I : Nat → Nat → Int32} {J : Nat → Nat → Int64} (l1 : Int32) (l2 : Int32) (s0 : Int32)  : ev (d + 1) 143 7 [.ref 1, .int l1, .int l2] [.int s0] (S sl p I J) = (if s0 = 0 then evK (d + 1) 143 15 [.ref 1, .int l1, .int l2] [] (den d 164 [.ref 1, .int 1] (S sl p I J)) else evK (d + 1) 143 24 [.ref 1, .int l1, .int l2] [] (den d 60 [.ref 4, .int l2] (S sl p I J))) := by
  refine (r_ne0 (dk D143 4 rfl) rfl).trans (ite2 ?_ ?_)
  · refine (r_aln (dk D143 5 rfl) rfl).trans ?_
    refine (r_ic (dk D143 6 rfl) ci1).trans ?_
    exact r_cv (dk D143 7 rfl) ow143 c11_81 mf164 (Nat.le_of_ble_eq_true rfl) rfl rfl (Nat.le_of_ble_eq_true rfl) (Nat.le_of_ble_eq_true rfl) ob_1
  · refine (r_aln (dk D143 9 rfl) rfl).trans ?_
    refine (r_getR (dk D143 10 rfl) ow143 q11_21 ob_1 rfl).trans ?_
    refine (r_iln (dk D143 11 rfl) rfl).trans ?_
    exact r_cv (dk D143 12 rfl) ow143 c11_114 mf60 (Nat.le_of_ble_eq_true rfl) rfl rfl (Nat.le_of_ble_eq_true rfl) (Nat.le_of_ble_eq_true rfl) ob_4
theorem E143_15 {d sl : Nat} {p : Nat → Nat} {I : Nat → Nat → Int32} {J : Nat → Nat → Int64} (l1 : Int32) (l2 : Int32) (s0 : Int32)  : ev d 143 15 [.ref 1, .int l1, .int l2] [.int s0] (S sl p I J) = some (some (.int s0), (S sl p I J)) := by
  exact r_ret (dk D143 8 rfl) rt143
theorem E143_24 {d sl : Nat} {p : Nat → Nat} {I : Nat → Nat → Int32} {J : Nat → Nat → Int64} (l1 : Int32) (l2 : Int32) (s0 : Int32)  : ev (d + 1) 143 24 [.ref 1, .int l1, .int l2] [.int s0] (S sl p I J) = (if s0 = 0 then evK (d + 1) 143 32 [.ref 1, .int l1, .int l2] [] (den d 164 [.ref 1, .int 2] (S sl p I J)) else evK (d + 1) 143 40 [.ref 1, .int l1, .int l2] [] (den d 104 [.ref 11] (S sl p I J))) := by
  refine (r_ne0 (dk D143 13 rfl) rfl).trans (ite2 ?_ ?_)
  · refine (r_aln (dk D143 14 rfl) rfl).trans ?_
    refine (r_ic (dk D143 15 rfl) ci2).trans ?_
    exact r_cv (dk D143 16 rfl) ow143 c11_81 mf164 (Nat.le_of_ble_eq_true rfl) rfl rfl (Nat.le_of_ble_eq_true rfl) (Nat.le_of_ble_eq_true rfl) ob_1
  · refine (r_aln (dk D143 18 rfl) rfl).trans ?_
    refine (r_getR (dk D143 19 rfl) ow143 q11_30 ob_1 rfl).trans ?_
    exact r_cv (dk D143 20 rfl) ow143 c11_144 mf104 (Nat.le_of_ble_eq_true rfl) rfl rfl (Nat.le_of_ble_eq_true rfl) (Nat.le_of_ble_eq_true rfl) ob_11
theorem E143_32 {d sl : Nat} {p : Nat → Nat} {I : Nat → Nat → Int32} {J : Nat → Nat → Int64} (l1 : Int32) (l2 : Int32) (s0 : Int32)  : ev d 143 32 [.ref 1, .int l1, .int l2] [.int s0] (S sl p I J) = some (some (.int s0), (S sl p I J)) := by
  exact r_ret (dk D143 17 rfl) rt143
theorem E143_40 {d sl : Nat} {p : Nat → Nat} {I : Nat → Nat → Int32} {J : Nat → Nat → Int64} (l1 : Int32) (l2 : Int32)  : ev (d + 1) 143 40 [.ref 1, .int l1, .int l2] [] (S sl p I J) = evK (d + 1) 143 48 [.ref 1, .int l1, .int l2] [] (den d 39 [.ref 22, .int l1] (S sl p I J)) := by
  refine (r_aln (dk D143 21 rfl) rfl).trans ?_
  refine (r_getR (dk D143 22 rfl) ow143 q11_39 ob_1 rfl).trans ?_
  refine (r_iln (dk D143 23 rfl) rfl).trans ?_
  exact r_cv (dk D143 24 rfl) ow143 c11_259 mf39 (Nat.le_of_ble_eq_true rfl) rfl rfl (Nat.le_of_ble_eq_true rfl) (Nat.le_of_ble_eq_true rfl) ob_22
theorem E143_48 {d sl : Nat} {p : Nat → Nat} {I : Nat → Nat → Int32} {J : Nat → Nat → Int64} (l1 : Int32) (l2 : Int32)  : ev (d + 1) 143 48 [.ref 1, .int l1, .int l2] [] (S sl p I J) = ck (ixb 60 l2) (evK (d + 1) 143 61 [.ref 1, .int l1, .int l2] [] (den d 163 [.ref 1, .int (I 23 (Int32.toNatClampNeg l2))] (S sl p I J))) := by
  refine (r_aln (dk D143 25 rfl) rfl).trans ?_
  refine (r_aln (dk D143 26 rfl) rfl).trans ?_
  refine (r_getR (dk D143 27 rfl) ow143 q11_39 ob_1 rfl).trans ?_
  refine (r_getR (dk D143 28 rfl) ow143 q11_271 ob_22 rfl).trans ?_
  refine (r_iln (dk D143 29 rfl) rfl).trans ?_
  refine (r_ild (dk D143 30 rfl) ar_23).trans (ck3 fun g1 => ?_)
  exact r_cv (dk D143 31 rfl) ow143 c11_92 mf163 (Nat.le_of_ble_eq_true rfl) rfl rfl (Nat.le_of_ble_eq_true rfl) (Nat.le_of_ble_eq_true rfl) ob_1
theorem E143_61 {d sl : Nat} {p : Nat → Nat} {I : Nat → Nat → Int32} {J : Nat → Nat → Int64} (l1 : Int32) (l2 : Int32) (s0 : Int32)  : ev d 143 61 [.ref 1, .int l1, .int l2] [.int s0] (S sl p I J) = some (some (.int s0), (S sl p I J)) := by
  exact r_ret (dk D143 32 rfl) rt143
set_option maxRecDepth 20000 in
theorem D144 : dOK 144 [(0, .iload_n 1, 1), (1, .iconst 1, 1), (2, .bipush 90, 2), (4, .invokestatic 121, 3), (7, .ifCond .ne 9, 3), (10, .aload_n 0, 1), (11, .iconst 1, 1), (12, .invokevirtual 81, 3), (15, .ireturn, 1), (16, .aload_n 0, 1), (17, .getfield 30, 3), (20, .iload_n 2, 1), (21, .invokevirtual 193, 3), (24, .ifCond .ne 9, 3), (27, .aload_n 0, 1), (28, .iconst 2, 1), (29, .invokevirtual 81, 3), (32, .ireturn, 1), (33, .aload_n 0, 1), (34, .getfield 30, 3), (37, .invokevirtual 144, 3), (40, .aload_n 0, 1), (41, .getfield 39, 3), (44, .iload_n 1, 1), (45, .invokevirtual 259, 3), (48, .aload_n 0, 1), (49, .aload_n 0, 1), (50, .getfield 10, 3), (53, .aload_n 0, 1), (54, .getfield 39, 3), (57, .getfield 272, 3), (60, .iload_n 2, 1), (61, .aaload, 1), (62, .invokevirtual 273, 3), (65, .invokevirtual 92, 3), (68, .ireturn, 1)] = true := by decide +kernel
theorem E144_0 {d sl : Nat} {p : Nat → Nat} {I : Nat → Nat → Int32} {J : Nat → Nat → Int64} (a1 : Int32) (a2 : Int32)  : den (d + 1) 144 [.ref 1, .int a1, .int a2] (S sl p I J) = evK (d + 1) 144 7 [.ref 1, .int a1, .int a2] [] (den d 167 [.int a1, .int 1, .int 90] (S sl p I J)) := by
  refine (show den (d + 1) 144 [.ref 1, .int a1, .int a2] (S sl p I J) = ev (d + 1) 144 0 [.ref 1, .int a1, .int a2] [] (S sl p I J) from rfl).trans ?_
  refine (r_iln (dk D144 0 rfl) rfl).trans ?_
  refine (r_ic (dk D144 1 rfl) ci1).trans ?_
  refine (r_bp (dk D144 2 rfl) cb90).trans ?_
  exact r_cs (dk D144 3 rfl) ow144 pn11_121 c11_121 mf167 (Nat.le_of_ble_eq_true rfl) rfl rfl (Nat.le_of_ble_eq_true rfl) (Nat.le_of_ble_eq_true rfl)
theorem E144_7 {d sl : Nat} {p : Nat → Nat} {I : Nat → Nat → Int32} {J : Nat → Nat → Int64} (l1 : Int32) (l2 : Int32) (s0 : Int32)  : ev (d + 1) 144 7 [.ref 1, .int l1, .int l2] [.int s0] (S sl p I J) = (if s0 = 0 then evK (d + 1) 144 15 [.ref 1, .int l1, .int l2] [] (den d 164 [.ref 1, .int 1] (S sl p I J)) else evK (d + 1) 144 24 [.ref 1, .int l1, .int l2] [] (den d 100 [.ref 11, .int l2] (S sl p I J))) := by
  refine (r_ne0 (dk D144 4 rfl) rfl).trans (ite2 ?_ ?_)
  · refine (r_aln (dk D144 5 rfl) rfl).trans ?_
    refine (r_ic (dk D144 6 rfl) ci1).trans ?_
    exact r_cv (dk D144 7 rfl) ow144 c11_81 mf164 (Nat.le_of_ble_eq_true rfl) rfl rfl (Nat.le_of_ble_eq_true rfl) (Nat.le_of_ble_eq_true rfl) ob_1
  · refine (r_aln (dk D144 9 rfl) rfl).trans ?_
    refine (r_getR (dk D144 10 rfl) ow144 q11_30 ob_1 rfl).trans ?_
    refine (r_iln (dk D144 11 rfl) rfl).trans ?_
    exact r_cv (dk D144 12 rfl) ow144 c11_193 mf100 (Nat.le_of_ble_eq_true rfl) rfl rfl (Nat.le_of_ble_eq_true rfl) (Nat.le_of_ble_eq_true rfl) ob_11
theorem E144_15 {d sl : Nat} {p : Nat → Nat} {I : Nat → Nat → Int32} {J : Nat → Nat → Int64} (l1 : Int32) (l2 : Int32) (s0 : Int32)  : ev d 144 15 [.ref 1, .int l1, .int l2] [.int s0] (S sl p I J) = some (some (.int s0), (S sl p I J)) := by
  exact r_ret (dk D144 8 rfl) rt144
theorem E144_24 {d sl : Nat} {p : Nat → Nat} {I : Nat → Nat → Int32} {J : Nat → Nat → Int64} (l1 : Int32) (l2 : Int32) (s0 : Int32)  : ev (d + 1) 144 24 [.ref 1, .int l1, .int l2] [.int s0] (S sl p I J) = (if s0 = 0 then evK (d + 1) 144 32 [.ref 1, .int l1, .int l2] [] (den d 164 [.ref 1, .int 2] (S sl p I J)) else evK (d + 1) 144 40 [.ref 1, .int l1, .int l2] [] (den d 104 [.ref 11] (S sl p I J))) := by
  refine (r_ne0 (dk D144 13 rfl) rfl).trans (ite2 ?_ ?_)
  · refine (r_aln (dk D144 14 rfl) rfl).trans ?_
    refine (r_ic (dk D144 15 rfl) ci2).trans ?_
    exact r_cv (dk D144 16 rfl) ow144 c11_81 mf164 (Nat.le_of_ble_eq_true rfl) rfl rfl (Nat.le_of_ble_eq_true rfl) (Nat.le_of_ble_eq_true rfl) ob_1
  · refine (r_aln (dk D144 18 rfl) rfl).trans ?_
    refine (r_getR (dk D144 19 rfl) ow144 q11_30 ob_1 rfl).trans ?_
    exact r_cv (dk D144 20 rfl) ow144 c11_144 mf104 (Nat.le_of_ble_eq_true rfl) rfl rfl (Nat.le_of_ble_eq_true rfl) (Nat.le_of_ble_eq_true rfl) ob_11
theorem E144_32 {d sl : Nat} {p : Nat → Nat} {I : Nat → Nat → Int32} {J : Nat → Nat → Int64} (l1 : Int32) (l2 : Int32) (s0 : Int32)  : ev d 144 32 [.ref 1, .int l1, .int l2] [.int s0] (S sl p I J) = some (some (.int s0), (S sl p I J)) := by
  exact r_ret (dk D144 17 rfl) rt144
theorem E144_40 {d sl : Nat} {p : Nat → Nat} {I : Nat → Nat → Int32} {J : Nat → Nat → Int64} (l1 : Int32) (l2 : Int32)  : ev (d + 1) 144 40 [.ref 1, .int l1, .int l2] [] (S sl p I J) = evK (d + 1) 144 48 [.ref 1, .int l1, .int l2] [] (den d 39 [.ref 22, .int l1] (S sl p I J)) := by
  refine (r_aln (dk D144 21 rfl) rfl).trans ?_
  refine (r_getR (dk D144 22 rfl) ow144 q11_39 ob_1 rfl).trans ?_
  refine (r_iln (dk D144 23 rfl) rfl).trans ?_
  exact r_cv (dk D144 24 rfl) ow144 c11_259 mf39 (Nat.le_of_ble_eq_true rfl) rfl rfl (Nat.le_of_ble_eq_true rfl) (Nat.le_of_ble_eq_true rfl) ob_22
theorem E144_48 {d sl : Nat} {p : Nat → Nat} {I : Nat → Nat → Int32} {J : Nat → Nat → Int64} (l1 : Int32) (l2 : Int32)  : ev (d + 1) 144 48 [.ref 1, .int l1, .int l2] [] (S sl p I J) = ck (ixb 30 l2) (evK (d + 1) 144 65 [.ref 1, .int l1, .int l2] [.ref 1] (den d 37 [.ref 2, .ref (900 + (Int32.toNatClampNeg l2))] (S sl p I J))) := by
  refine (r_aln (dk D144 25 rfl) rfl).trans ?_
  refine (r_aln (dk D144 26 rfl) rfl).trans ?_
  refine (r_getR (dk D144 27 rfl) ow144 q11_10 ob_1 rfl).trans ?_
  refine (r_aln (dk D144 28 rfl) rfl).trans ?_
  refine (r_getR (dk D144 29 rfl) ow144 q11_39 ob_1 rfl).trans ?_
  refine (r_getR (dk D144 30 rfl) ow144 q11_272 ob_22 rfl).trans ?_
  refine (r_iln (dk D144 31 rfl) rfl).trans ?_
  refine (r_ald (dk D144 32 rfl) ar_24 (by decide) rfA24).trans (ck3 fun g1 => ?_)
  exact r_cv (dk D144 33 rfl) ow144 c11_273 mf37 (Nat.le_of_ble_eq_true rfl) rfl rfl (Nat.le_of_ble_eq_true rfl) (Nat.le_of_ble_eq_true rfl) ob_2
theorem E144_65 {d sl : Nat} {p : Nat → Nat} {I : Nat → Nat → Int32} {J : Nat → Nat → Int64} (l1 : Int32) (l2 : Int32) (s0 : Int32)  : ev (d + 1) 144 65 [.ref 1, .int l1, .int l2] [.int s0, .ref 1] (S sl p I J) = evK (d + 1) 144 68 [.ref 1, .int l1, .int l2] [] (den d 163 [.ref 1, .int s0] (S sl p I J)) := by
  exact r_cv (dk D144 34 rfl) ow144 c11_92 mf163 (Nat.le_of_ble_eq_true rfl) rfl rfl (Nat.le_of_ble_eq_true rfl) (Nat.le_of_ble_eq_true rfl) ob_1
theorem E144_68 {d sl : Nat} {p : Nat → Nat} {I : Nat → Nat → Int32} {J : Nat → Nat → Int64} (l1 : Int32) (l2 : Int32) (s0 : Int32)  : ev d 144 68 [.ref 1, .int l1, .int l2] [.int s0] (S sl p I J) = some (some (.int s0), (S sl p I J)) := by
  exact r_ret (dk D144 35 rfl) rt144
set_option maxRecDepth 20000 in
theorem D145 : dOK 145 [(0, .iload_n 1, 1), (1, .iload_n 2, 1), (2, .invokestatic 95, 3), (5, .ifCond .eq 13, 3), (8, .iload_n 3, 1), (9, .iconst 0, 1), (10, .bipush 90, 2), (12, .invokestatic 121, 3), (15, .ifCond .ne 9, 3), (18, .aload_n 0, 1), (19, .iconst 1, 1), (20, .invokevirtual 81, 3), (23, .ireturn, 1), (24, .aload_n 0, 1), (25, .getfield 10, 3), (28, .iload_n 1, 1), (29, .iload_n 2, 1), (30, .aload_n 0, 1), (31, .getfield 69, 3), (34, .invokevirtual 277, 3), (37, .aload_n 0, 1), (38, .aload_n 0, 1), (39, .getfield 21, 3), (42, .aload_n 0, 1), (43, .getfield 69, 3), (46, .iload_n 3, 1), (47, .invokevirtual 281, 3), (50, .invokevirtual 92, 3), (53, .ireturn, 1)] = true := by decide +kernel
theorem E145_0 {d sl : Nat} {p : Nat → Nat} {I : Nat → Nat → Int32} {J : Nat → Nat → Int64} (a1 : Int32) (a2 : Int32) (a3 : Int32)  : den (d + 1) 145 [.ref 1, .int a1, .int a2, .int a3] (S sl p I J) = evK (d + 1) 145 5 [.ref 1, .int a1, .int a2, .int a3] [] (den d 168 [.int a1, .int a2] (S sl p I J)) := by
  refine (show den (d + 1) 145 [.ref 1, .int a1, .int a2, .int a3] (S sl p I J) = ev (d + 1) 145 0 [.ref 1, .int a1, .int a2, .int a3] [] (S sl p I J) from rfl).trans ?_
  refine (r_iln (dk D145 0 rfl) rfl).trans ?_
  refine (r_iln (dk D145 1 rfl) rfl).trans ?_
  exact r_cs (dk D145 2 rfl) ow145 pn11_95 c11_95 mf168 (Nat.le_of_ble_eq_true rfl) rfl rfl (Nat.le_of_ble_eq_true rfl) (Nat.le_of_ble_eq_true rfl)
theorem E145_5 {d sl : Nat} {p : Nat → Nat} {I : Nat → Nat → Int32} {J : Nat → Nat → Int64} (l1 : Int32) (l2 : Int32) (l3 : Int32) (s0 : Int32)  : ev (d + 1) 145 5 [.ref 1, .int l1, .int l2, .int l3] [.int s0] (S sl p I J) = (if s0 = 0 then ev (d + 1) 145 18 [.ref 1, .int l1, .int l2, .int l3] [] (S sl p I J) else evK (d + 1) 145 15 [.ref 1, .int l1, .int l2, .int l3] [] (den d 167 [.int l3, .int 0, .int 90] (S sl p I J))) := by
  refine (r_eq0 (dk D145 3 rfl) rfl).trans (ite2 ?_ ?_)
  · exact rfl
  · refine (r_iln (dk D145 4 rfl) rfl).trans ?_
    refine (r_ic (dk D145 5 rfl) ci0).trans ?_
    refine (r_bp (dk D145 6 rfl) cb90).trans ?_
    exact r_cs (dk D145 7 rfl) ow145 pn11_121 c11_121 mf167 (Nat.le_of_ble_eq_true rfl) rfl rfl (Nat.le_of_ble_eq_true rfl) (Nat.le_of_ble_eq_true rfl)
theorem E145_15 {d sl : Nat} {p : Nat → Nat} {I : Nat → Nat → Int32} {J : Nat → Nat → Int64} (l1 : Int32) (l2 : Int32) (l3 : Int32) (s0 : Int32)  : ev (d + 1) 145 15 [.ref 1, .int l1, .int l2, .int l3] [.int s0] (S sl p I J) = (if s0 = 0 then ev (d + 1) 145 18 [.ref 1, .int l1, .int l2, .int l3] [] (S sl p I J) else evK (d + 1) 145 37 [.ref 1, .int l1, .int l2, .int l3] [] (den d 28 [.ref 2, .int l1, .int l2, .ref 45] (S sl p I J))) := by
  refine (r_ne0 (dk D145 8 rfl) rfl).trans (ite2 ?_ ?_)
  · exact rfl
  · refine (r_aln (dk D145 13 rfl) rfl).trans ?_
    refine (r_getR (dk D145 14 rfl) ow145 q11_10 ob_1 rfl).trans ?_
    refine (r_iln (dk D145 15 rfl) rfl).trans ?_
    refine (r_iln (dk D145 16 rfl) rfl).trans ?_
    refine (r_aln (dk D145 17 rfl) rfl).trans ?_
    refine (r_getR (dk D145 18 rfl) ow145 q11_69 ob_1 rfl).trans ?_
    exact r_cv (dk D145 19 rfl) ow145 c11_277 mf28 (Nat.le_of_ble_eq_true rfl) rfl rfl (Nat.le_of_ble_eq_true rfl) (Nat.le_of_ble_eq_true rfl) ob_2
theorem E145_18 {d sl : Nat} {p : Nat → Nat} {I : Nat → Nat → Int32} {J : Nat → Nat → Int64} (l1 : Int32) (l2 : Int32) (l3 : Int32)  : ev (d + 1) 145 18 [.ref 1, .int l1, .int l2, .int l3] [] (S sl p I J) = evK (d + 1) 145 23 [.ref 1, .int l1, .int l2, .int l3] [] (den d 164 [.ref 1, .int 1] (S sl p I J)) := by
  refine (r_aln (dk D145 9 rfl) rfl).trans ?_
  refine (r_ic (dk D145 10 rfl) ci1).trans ?_
  exact r_cv (dk D145 11 rfl) ow145 c11_81 mf164 (Nat.le_of_ble_eq_true rfl) rfl rfl (Nat.le_of_ble_eq_true rfl) (Nat.le_of_ble_eq_true rfl) ob_1
theorem E145_23 {d sl : Nat} {p : Nat → Nat} {I : Nat → Nat → Int32} {J : Nat → Nat → Int64} (l1 : Int32) (l2 : Int32) (l3 : Int32) (s0 : Int32)  : ev d 145 23 [.ref 1, .int l1, .int l2, .int l3] [.int s0] (S sl p I J) = some (some (.int s0), (S sl p I J)) := by
  exact r_ret (dk D145 12 rfl) rt145
theorem E145_37 {d sl : Nat} {p : Nat → Nat} {I : Nat → Nat → Int32} {J : Nat → Nat → Int64} (l1 : Int32) (l2 : Int32) (l3 : Int32)  : ev (d + 1) 145 37 [.ref 1, .int l1, .int l2, .int l3] [] (S sl p I J) = evK (d + 1) 145 50 [.ref 1, .int l1, .int l2, .int l3] [.ref 1] (den d 74 [.ref 4, .ref 45, .int l3] (S sl p I J)) := by
  refine (r_aln (dk D145 20 rfl) rfl).trans ?_
  refine (r_aln (dk D145 21 rfl) rfl).trans ?_
  refine (r_getR (dk D145 22 rfl) ow145 q11_21 ob_1 rfl).trans ?_
  refine (r_aln (dk D145 23 rfl) rfl).trans ?_
  refine (r_getR (dk D145 24 rfl) ow145 q11_69 ob_1 rfl).trans ?_
  refine (r_iln (dk D145 25 rfl) rfl).trans ?_
  exact r_cv (dk D145 26 rfl) ow145 c11_281 mf74 (Nat.le_of_ble_eq_true rfl) rfl rfl (Nat.le_of_ble_eq_true rfl) (Nat.le_of_ble_eq_true rfl) ob_4
theorem E145_50 {d sl : Nat} {p : Nat → Nat} {I : Nat → Nat → Int32} {J : Nat → Nat → Int64} (l1 : Int32) (l2 : Int32) (l3 : Int32) (s0 : Int32)  : ev (d + 1) 145 50 [.ref 1, .int l1, .int l2, .int l3] [.int s0, .ref 1] (S sl p I J) = evK (d + 1) 145 53 [.ref 1, .int l1, .int l2, .int l3] [] (den d 163 [.ref 1, .int s0] (S sl p I J)) := by
  exact r_cv (dk D145 27 rfl) ow145 c11_92 mf163 (Nat.le_of_ble_eq_true rfl) rfl rfl (Nat.le_of_ble_eq_true rfl) (Nat.le_of_ble_eq_true rfl) ob_1
theorem E145_53 {d sl : Nat} {p : Nat → Nat} {I : Nat → Nat → Int32} {J : Nat → Nat → Int64} (l1 : Int32) (l2 : Int32) (l3 : Int32) (s0 : Int32)  : ev d 145 53 [.ref 1, .int l1, .int l2, .int l3] [.int s0] (S sl p I J) = some (some (.int s0), (S sl p I J)) := by
  exact r_ret (dk D145 28 rfl) rt145
set_option maxRecDepth 20000 in
theorem D146 : dOK 146 [(0, .iload_n 1, 1), (1, .iload_n 2, 1), (2, .invokestatic 95, 3), (5, .ifCond .eq 13, 3), (8, .iload_n 3, 1), (9, .iconst 0, 1), (10, .bipush 90, 2), (12, .invokestatic 121, 3), (15, .ifCond .ne 9, 3), (18, .aload_n 0, 1), (19, .iconst 1, 1), (20, .invokevirtual 81, 3), (23, .ireturn, 1), (24, .aload_n 0, 1), (25, .getfield 10, 3), (28, .iload_n 1, 1), (29, .iload_n 2, 1), (30, .aload_n 0, 1), (31, .getfield 69, 3), (34, .invokevirtual 277, 3), (37, .aload_n 0, 1), (38, .getfield 21, 3), (41, .invokevirtual 285, 3), (44, .sipush 1000, 3), (47, .aload_n 0, 1), (48, .getfield 10, 3), (51, .iload_n 3, 1), (52, .invokevirtual 289, 3), (55, .isub, 1), (56, .i2l, 1), (57, .lmul, 1), (58, .ldc2_w 292, 3), (61, .ldiv, 1), (62, .lstore 4, 2), (64, .aload_n 0, 1), (65, .aload_n 0, 1), (66, .getfield 21, 3), (69, .aload_n 0, 1), (70, .getfield 69, 3), (73, .iload_n 3, 1), (74, .invokevirtual 281, 3), (77, .i2l, 1), (78, .lload 4, 2), (80, .lsub, 1), (81, .l2i, 1), (82, .invokevirtual 92, 3), (85, .ireturn, 1)] = true := by decide +kernel
theorem E146_0 {d sl : Nat} {p : Nat → Nat} {I : Nat → Nat → Int32} {J : Nat → Nat → Int64} (a1 : Int32) (a2 : Int32) (a3 : Int32)  : den (d + 1) 146 [.ref 1, .int a1, .int a2, .int a3] (S sl p I J) = evK (d + 1) 146 5 [.ref 1, .int a1, .int a2, .int a3, .retAddr 0, .retAddr 0] [] (den d 168 [.int a1, .int a2] (S sl p I J)) := by
  refine (show den (d + 1) 146 [.ref 1, .int a1, .int a2, .int a3] (S sl p I J) = ev (d + 1) 146 0 [.ref 1, .int a1, .int a2, .int a3, .retAddr 0, .retAddr 0] [] (S sl p I J) from rfl).trans ?_
  refine (r_iln (dk D146 0 rfl) rfl).trans ?_
  refine (r_iln (dk D146 1 rfl) rfl).trans ?_
  exact r_cs (dk D146 2 rfl) ow146 pn11_95 c11_95 mf168 (Nat.le_of_ble_eq_true rfl) rfl rfl (Nat.le_of_ble_eq_true rfl) (Nat.le_of_ble_eq_true rfl)
theorem E146_5 {d sl : Nat} {p : Nat → Nat} {I : Nat → Nat → Int32} {J : Nat → Nat → Int64} (l1 : Int32) (l2 : Int32) (l3 : Int32) (s0 : Int32)  : ev (d + 1) 146 5 [.ref 1, .int l1, .int l2, .int l3, .retAddr 0, .retAddr 0] [.int s0] (S sl p I J) = (if s0 = 0 then ev (d + 1) 146 18 [.ref 1, .int l1, .int l2, .int l3, .retAddr 0, .retAddr 0] [] (S sl p I J) else evK (d + 1) 146 15 [.ref 1, .int l1, .int l2, .int l3, .retAddr 0, .retAddr 0] [] (den d 167 [.int l3, .int 0, .int 90] (S sl p I J))) := by
  refine (r_eq0 (dk D146 3 rfl) rfl).trans (ite2 ?_ ?_)
  · exact rfl
  · refine (r_iln (dk D146 4 rfl) rfl).trans ?_
    refine (r_ic (dk D146 5 rfl) ci0).trans ?_
    refine (r_bp (dk D146 6 rfl) cb90).trans ?_
    exact r_cs (dk D146 7 rfl) ow146 pn11_121 c11_121 mf167 (Nat.le_of_ble_eq_true rfl) rfl rfl (Nat.le_of_ble_eq_true rfl) (Nat.le_of_ble_eq_true rfl)
theorem E146_15 {d sl : Nat} {p : Nat → Nat} {I : Nat → Nat → Int32} {J : Nat → Nat → Int64} (l1 : Int32) (l2 : Int32) (l3 : Int32) (s0 : Int32)  : ev (d + 1) 146 15 [.ref 1, .int l1, .int l2, .int l3, .retAddr 0, .retAddr 0] [.int s0] (S sl p I J) = (if s0 = 0 then ev (d + 1) 146 18 [.ref 1, .int l1, .int l2, .int l3, .retAddr 0, .retAddr 0] [] (S sl p I J) else evK (d + 1) 146 37 [.ref 1, .int l1, .int l2, .int l3, .retAddr 0, .retAddr 0] [] (den d 28 [.ref 2, .int l1, .int l2, .ref 45] (S sl p I J))) := by
  refine (r_ne0 (dk D146 8 rfl) rfl).trans (ite2 ?_ ?_)
  · exact rfl
  · refine (r_aln (dk D146 13 rfl) rfl).trans ?_
    refine (r_getR (dk D146 14 rfl) ow146 q11_10 ob_1 rfl).trans ?_
    refine (r_iln (dk D146 15 rfl) rfl).trans ?_
    refine (r_iln (dk D146 16 rfl) rfl).trans ?_
    refine (r_aln (dk D146 17 rfl) rfl).trans ?_
    refine (r_getR (dk D146 18 rfl) ow146 q11_69 ob_1 rfl).trans ?_
    exact r_cv (dk D146 19 rfl) ow146 c11_277 mf28 (Nat.le_of_ble_eq_true rfl) rfl rfl (Nat.le_of_ble_eq_true rfl) (Nat.le_of_ble_eq_true rfl) ob_2
theorem E146_18 {d sl : Nat} {p : Nat → Nat} {I : Nat → Nat → Int32} {J : Nat → Nat → Int64} (l1 : Int32) (l2 : Int32) (l3 : Int32)  : ev (d + 1) 146 18 [.ref 1, .int l1, .int l2, .int l3, .retAddr 0, .retAddr 0] [] (S sl p I J) = evK (d + 1) 146 23 [.ref 1, .int l1, .int l2, .int l3, .retAddr 0, .retAddr 0] [] (den d 164 [.ref 1, .int 1] (S sl p I J)) := by
  refine (r_aln (dk D146 9 rfl) rfl).trans ?_
  refine (r_ic (dk D146 10 rfl) ci1).trans ?_
  exact r_cv (dk D146 11 rfl) ow146 c11_81 mf164 (Nat.le_of_ble_eq_true rfl) rfl rfl (Nat.le_of_ble_eq_true rfl) (Nat.le_of_ble_eq_true rfl) ob_1
theorem E146_23 {d sl : Nat} {p : Nat → Nat} {I : Nat → Nat → Int32} {J : Nat → Nat → Int64} (l1 : Int32) (l2 : Int32) (l3 : Int32) (s0 : Int32)  : ev d 146 23 [.ref 1, .int l1, .int l2, .int l3, .retAddr 0, .retAddr 0] [.int s0] (S sl p I J) = some (some (.int s0), (S sl p I J)) := by
  exact r_ret (dk D146 12 rfl) rt146
theorem E146_37 {d sl : Nat} {p : Nat → Nat} {I : Nat → Nat → Int32} {J : Nat → Nat → Int64} (l1 : Int32) (l2 : Int32) (l3 : Int32)  : ev (d + 1) 146 37 [.ref 1, .int l1, .int l2, .int l3, .retAddr 0, .retAddr 0] [] (S sl p I J) = evK (d + 1) 146 44 [.ref 1, .int l1, .int l2, .int l3, .retAddr 0, .retAddr 0] [] (den d 73 [.ref 4] (S sl p I J)) := by
  refine (r_aln (dk D146 20 rfl) rfl).trans ?_
  refine (r_getR (dk D146 21 rfl) ow146 q11_21 ob_1 rfl).trans ?_
  exact r_cv (dk D146 22 rfl) ow146 c11_285 mf73 (Nat.le_of_ble_eq_true rfl) rfl rfl (Nat.le_of_ble_eq_true rfl) (Nat.le_of_ble_eq_true rfl) ob_4
theorem E146_44 {d sl : Nat} {p : Nat → Nat} {I : Nat → Nat → Int32} {J : Nat → Nat → Int64} (l1 : Int32) (l2 : Int32) (l3 : Int32) (s0 : Int64)  : ev (d + 1) 146 44 [.ref 1, .int l1, .int l2, .int l3, .retAddr 0, .retAddr 0] [.long s0] (S sl p I J) = evK (d + 1) 146 55 [.ref 1, .int l1, .int l2, .int l3, .retAddr 0, .retAddr 0] [.int 1000, .long s0] (den d 27 [.ref 2, .int l3] (S sl p I J)) := by
  refine (r_sp (dk D146 23 rfl) cs1000).trans ?_
  refine (r_aln (dk D146 24 rfl) rfl).trans ?_
  refine (r_getR (dk D146 25 rfl) ow146 q11_10 ob_1 rfl).trans ?_
  refine (r_iln (dk D146 26 rfl) rfl).trans ?_
  exact r_cv (dk D146 27 rfl) ow146 c11_289 mf27 (Nat.le_of_ble_eq_true rfl) rfl rfl (Nat.le_of_ble_eq_true rfl) (Nat.le_of_ble_eq_true rfl) ob_2
theorem E146_55 {d sl : Nat} {p : Nat → Nat} {I : Nat → Nat → Int32} {J : Nat → Nat → Int64} (l1 : Int32) (l2 : Int32) (l3 : Int32) (s0 : Int32) (s1 : Int32) (s2 : Int64)  : ev (d + 1) 146 55 [.ref 1, .int l1, .int l2, .int l3, .retAddr 0, .retAddr 0] [.int s0, .int s1, .long s2] (S sl p I J) = evK (d + 1) 146 77 [.ref 1, .int l1, .int l2, .int l3, .long ((s2 * (Int32.toInt64 (s1 - s0))) / 1000), .retAddr 0] [.ref 1] (den d 74 [.ref 4, .ref 45, .int l3] (S sl p I J)) := by
  refine (r_isub (dk D146 28 rfl)).trans ?_
  refine (r_i2l (dk D146 29 rfl)).trans ?_
  refine (r_lmul (dk D146 30 rfl)).trans ?_
  refine (r_ld2 (dk D146 31 rfl) ow146 kk11_292).trans ?_
  refine (r_ldiv (dk D146 32 rfl) (by decide)).trans ?_
  refine (r_ls (L' := [.ref 1, .int l1, .int l2, .int l3, .long ((s2 * (Int32.toInt64 (s1 - s0))) / 1000), .retAddr 0]) (dk D146 33 rfl) (Nat.le_of_ble_eq_true rfl) rfl).trans ?_
  refine (r_aln (dk D146 34 rfl) rfl).trans ?_
  refine (r_aln (dk D146 35 rfl) rfl).trans ?_
  refine (r_getR (dk D146 36 rfl) ow146 q11_21 ob_1 rfl).trans ?_
  refine (r_aln (dk D146 37 rfl) rfl).trans ?_
  refine (r_getR (dk D146 38 rfl) ow146 q11_69 ob_1 rfl).trans ?_
  refine (r_iln (dk D146 39 rfl) rfl).trans ?_
  exact r_cv (dk D146 40 rfl) ow146 c11_281 mf74 (Nat.le_of_ble_eq_true rfl) rfl rfl (Nat.le_of_ble_eq_true rfl) (Nat.le_of_ble_eq_true rfl) ob_4
theorem E146_77 {d sl : Nat} {p : Nat → Nat} {I : Nat → Nat → Int32} {J : Nat → Nat → Int64} (l1 : Int32) (l2 : Int32) (l3 : Int32) (l4 : Int64) (s0 : Int32)  : ev (d + 1) 146 77 [.ref 1, .int l1, .int l2, .int l3, .long l4, .retAddr 0] [.int s0, .ref 1] (S sl p I J) = evK (d + 1) 146 85 [.ref 1, .int l1, .int l2, .int l3, .long l4, .retAddr 0] [] (den d 163 [.ref 1, .int (Int64.toInt32 ((Int32.toInt64 s0) - l4))] (S sl p I J)) := by
  refine (r_i2l (dk D146 41 rfl)).trans ?_
  refine (r_ll (dk D146 42 rfl) rfl).trans ?_
  refine (r_lsub (dk D146 43 rfl)).trans ?_
  refine (r_l2i (dk D146 44 rfl)).trans ?_
  exact r_cv (dk D146 45 rfl) ow146 c11_92 mf163 (Nat.le_of_ble_eq_true rfl) rfl rfl (Nat.le_of_ble_eq_true rfl) (Nat.le_of_ble_eq_true rfl) ob_1
theorem E146_85 {d sl : Nat} {p : Nat → Nat} {I : Nat → Nat → Int32} {J : Nat → Nat → Int64} (l1 : Int32) (l2 : Int32) (l3 : Int32) (l4 : Int64) (s0 : Int32)  : ev d 146 85 [.ref 1, .int l1, .int l2, .int l3, .long l4, .retAddr 0] [.int s0] (S sl p I J) = some (some (.int s0), (S sl p I J)) := by
  exact r_ret (dk D146 46 rfl) rt146
set_option maxRecDepth 20000 in
theorem D147 : dOK 147 [(0, .iload_n 1, 1), (1, .iconst 0, 1), (2, .bipush 17, 2), (4, .invokestatic 121, 3), (7, .ifCond .eq 12, 3), (10, .iload_n 2, 1), (11, .iconst 0, 1), (12, .iconst 1, 1), (13, .invokestatic 121, 3), (16, .ifCond .ne 9, 3), (19, .aload_n 0, 1), (20, .iconst 1, 1), (21, .invokevirtual 81, 3), (24, .ireturn, 1), (25, .aload_n 0, 1), (26, .aload_n 0, 1), (27, .getfield 21, 3), (30, .iload_n 1, 1), (31, .iload_n 2, 1), (32, .iconst 1, 1), (33, .if_icmp .ne 7, 3), (36, .iconst 1, 1), (37, .goto 4, 3), (40, .iconst 0, 1), (41, .invokevirtual 294, 3), (44, .invokevirtual 92, 3), (47, .ireturn, 1)] = true := by decide +kernel
theorem E147_0 {d sl : Nat} {p : Nat → Nat} {I : Nat → Nat → Int32} {J : Nat → Nat → Int64} (a1 : Int32) (a2 : Int32)  : den (d + 1) 147 [.ref 1, .int a1, .int a2] (S sl p I J) = evK (d + 1) 147 7 [.ref 1, .int a1, .int a2] [] (den d 167 [.int a1, .int 0, .int 17] (S sl p I J)) := by
  refine (show den (d + 1) 147 [.ref 1, .int a1, .int a2] (S sl p I J) = ev (d + 1) 147 0 [.ref 1, .int a1, .int a2] [] (S sl p I J) from rfl).trans ?_
  refine (r_iln (dk D147 0 rfl) rfl).trans ?_
  refine (r_ic (dk D147 1 rfl) ci0).trans ?_
  refine (r_bp (dk D147 2 rfl) cb17).trans ?_
  exact r_cs (dk D147 3 rfl) ow147 pn11_121 c11_121 mf167 (Nat.le_of_ble_eq_true rfl) rfl rfl (Nat.le_of_ble_eq_true rfl) (Nat.le_of_ble_eq_true rfl)
theorem E147_7 {d sl : Nat} {p : Nat → Nat} {I : Nat → Nat → Int32} {J : Nat → Nat → Int64} (l1 : Int32) (l2 : Int32) (s0 : Int32)  : ev (d + 1) 147 7 [.ref 1, .int l1, .int l2] [.int s0] (S sl p I J) = (if s0 = 0 then ev (d + 1) 147 19 [.ref 1, .int l1, .int l2] [] (S sl p I J) else evK (d + 1) 147 16 [.ref 1, .int l1, .int l2] [] (den d 167 [.int l2, .int 0, .int 1] (S sl p I J))) := by
  refine (r_eq0 (dk D147 4 rfl) rfl).trans (ite2 ?_ ?_)
  · exact rfl
  · refine (r_iln (dk D147 5 rfl) rfl).trans ?_
    refine (r_ic (dk D147 6 rfl) ci0).trans ?_
    refine (r_ic (dk D147 7 rfl) ci1).trans ?_
    exact r_cs (dk D147 8 rfl) ow147 pn11_121 c11_121 mf167 (Nat.le_of_ble_eq_true rfl) rfl rfl (Nat.le_of_ble_eq_true rfl) (Nat.le_of_ble_eq_true rfl)
theorem E147_16 {d sl : Nat} {p : Nat → Nat} {I : Nat → Nat → Int32} {J : Nat → Nat → Int64} (l1 : Int32) (l2 : Int32) (s0 : Int32)  : ev d 147 16 [.ref 1, .int l1, .int l2] [.int s0] (S sl p I J) = (if s0 = 0 then ev d 147 19 [.ref 1, .int l1, .int l2] [] (S sl p I J) else (if l2 = 1 then ev d 147 41 [.ref 1, .int l1, .int l2] [.int 1, .int l1, .ref 4, .ref 1] (S sl p I J) else ev d 147 41 [.ref 1, .int l1, .int l2] [.int 0, .int l1, .ref 4, .ref 1] (S sl p I J))) := by
  refine (r_ne0 (dk D147 9 rfl) rfl).trans (ite2 ?_ ?_)
  · exact rfl
  · refine (r_aln (dk D147 14 rfl) rfl).trans ?_
    refine (r_aln (dk D147 15 rfl) rfl).trans ?_
    refine (r_getR (dk D147 16 rfl) ow147 q11_21 ob_1 rfl).trans ?_
    refine (r_iln (dk D147 17 rfl) rfl).trans ?_
    refine (r_iln (dk D147 18 rfl) rfl).trans ?_
    refine (r_ic (dk D147 19 rfl) ci1).trans ?_
    refine (r_ne (dk D147 20 rfl) rfl).trans (ite2 ?_ ?_)
    · refine (r_ic (dk D147 21 rfl) ci1).trans ?_
      refine (r_goto (L' := [.ref 1, .int l1, .int l2]) (dk D147 22 rfl) rfl nd147_41 rfl).trans ?_
      exact rfl
    · refine (r_ic (dk D147 23 rfl) ci0).trans ?_
      exact rfl
theorem E147_19 {d sl : Nat} {p : Nat → Nat} {I : Nat → Nat → Int32} {J : Nat → Nat → Int64} (l1 : Int32) (l2 : Int32)  : ev (d + 1) 147 19 [.ref 1, .int l1, .int l2] [] (S sl p I J) = evK (d + 1) 147 24 [.ref 1, .int l1, .int l2] [] (den d 164 [.ref 1, .int 1] (S sl p I J)) := by
  refine (r_aln (dk D147 10 rfl) rfl).trans ?_
  refine (r_ic (dk D147 11 rfl) ci1).trans ?_
  exact r_cv (dk D147 12 rfl) ow147 c11_81 mf164 (Nat.le_of_ble_eq_true rfl) rfl rfl (Nat.le_of_ble_eq_true rfl) (Nat.le_of_ble_eq_true rfl) ob_1
theorem E147_24 {d sl : Nat} {p : Nat → Nat} {I : Nat → Nat → Int32} {J : Nat → Nat → Int64} (l1 : Int32) (l2 : Int32) (s0 : Int32)  : ev d 147 24 [.ref 1, .int l1, .int l2] [.int s0] (S sl p I J) = some (some (.int s0), (S sl p I J)) := by
  exact r_ret (dk D147 13 rfl) rt147
theorem E147_41 {d sl : Nat} {p : Nat → Nat} {I : Nat → Nat → Int32} {J : Nat → Nat → Int64} (l1 : Int32) (l2 : Int32) (s0 : Int32) (s1 : Int32)  : ev (d + 1) 147 41 [.ref 1, .int l1, .int l2] [.int s0, .int s1, .ref 4, .ref 1] (S sl p I J) = evK (d + 1) 147 44 [.ref 1, .int l1, .int l2] [.ref 1] (den d 75 [.ref 4, .int s1, .int s0] (S sl p I J)) := by
  exact r_cv (dk D147 24 rfl) ow147 c11_294 mf75 (Nat.le_of_ble_eq_true rfl) rfl rfl (Nat.le_of_ble_eq_true rfl) (Nat.le_of_ble_eq_true rfl) ob_4
theorem E147_44 {d sl : Nat} {p : Nat → Nat} {I : Nat → Nat → Int32} {J : Nat → Nat → Int64} (l1 : Int32) (l2 : Int32) (s0 : Int32)  : ev (d + 1) 147 44 [.ref 1, .int l1, .int l2] [.int s0, .ref 1] (S sl p I J) = evK (d + 1) 147 47 [.ref 1, .int l1, .int l2] [] (den d 163 [.ref 1, .int s0] (S sl p I J)) := by
  exact r_cv (dk D147 25 rfl) ow147 c11_92 mf163 (Nat.le_of_ble_eq_true rfl) rfl rfl (Nat.le_of_ble_eq_true rfl) (Nat.le_of_ble_eq_true rfl) ob_1
theorem E147_47 {d sl : Nat} {p : Nat → Nat} {I : Nat → Nat → Int32} {J : Nat → Nat → Int64} (l1 : Int32) (l2 : Int32) (s0 : Int32)  : ev d 147 47 [.ref 1, .int l1, .int l2] [.int s0] (S sl p I J) = some (some (.int s0), (S sl p I J)) := by
  exact r_ret (dk D147 26 rfl) rt147
set_option maxRecDepth 20000 in
theorem D148 : dOK 148 [(0, .iload_n 1, 1), (1, .iconst 0, 1), (2, .iconst 5, 1), (3, .invokestatic 121, 3), (6, .ifCond .ne 9, 3), (9, .aload_n 0, 1), (10, .iconst 1, 1), (11, .invokevirtual 81, 3), (14, .ireturn, 1), (15, .aload_n 0, 1), (16, .getfield 21, 3), (19, .getfield 107, 3), (22, .ifCond .ne 9, 3), (25, .aload_n 0, 1), (26, .iconst 5, 1), (27, .invokevirtual 81, 3), (30, .ireturn, 1), (31, .aload_n 0, 1), (32, .getfield 46, 3), (35, .invokevirtual 298, 3), (38, .aload_n 0, 1), (39, .aload_n 0, 1), (40, .getfield 46, 3), (43, .getfield 301, 3), (46, .iload_n 1, 1), (47, .laload, 1), (48, .l2i, 1), (49, .invokevirtual 92, 3), (52, .ireturn, 1)] = true := by decide +kernel
theorem E148_0 {d sl : Nat} {p : Nat → Nat} {I : Nat → Nat → Int32} {J : Nat → Nat → Int64} (a1 : Int32)  : den (d + 1) 148 [.ref 1, .int a1] (S sl p I J) = evK (d + 1) 148 6 [.ref 1, .int a1] [] (den d 167 [.int a1, .int 0, .int 5] (S sl p I J)) := by
  refine (show den (d + 1) 148 [.ref 1, .int a1] (S sl p I J) = ev (d + 1) 148 0 [.ref 1, .int a1] [] (S sl p I J) from rfl).trans ?_
  refine (r_iln (dk D148 0 rfl) rfl).trans ?_
  refine (r_ic (dk D148 1 rfl) ci0).trans ?_
  refine (r_ic (dk D148 2 rfl) ci5).trans ?_
  exact r_cs (dk D148 3 rfl) ow148 pn11_121 c11_121 mf167 (Nat.le_of_ble_eq_true rfl) rfl rfl (Nat.le_of_ble_eq_true rfl) (Nat.le_of_ble_eq_true rfl)
theorem E148_6 {d sl : Nat} {p : Nat → Nat} {I : Nat → Nat → Int32} {J : Nat → Nat → Int64} (l1 : Int32) (s0 : Int32)  : ev (d + 1) 148 6 [.ref 1, .int l1] [.int s0] (S sl p I J) = (if s0 = 0 then evK (d + 1) 148 14 [.ref 1, .int l1] [] (den d 164 [.ref 1, .int 1] (S sl p I J)) else (if (I 4 8) = 0 then evK (d + 1) 148 30 [.ref 1, .int l1] [] (den d 164 [.ref 1, .int 5] (S sl p I J)) else evK (d + 1) 148 38 [.ref 1, .int l1] [] (den d 78 [.ref 27] (S sl p I J)))) := by
  refine (r_ne0 (dk D148 4 rfl) rfl).trans (ite2 ?_ ?_)
  · refine (r_aln (dk D148 5 rfl) rfl).trans ?_
    refine (r_ic (dk D148 6 rfl) ci1).trans ?_
    exact r_cv (dk D148 7 rfl) ow148 c11_81 mf164 (Nat.le_of_ble_eq_true rfl) rfl rfl (Nat.le_of_ble_eq_true rfl) (Nat.le_of_ble_eq_true rfl) ob_1
  · refine (r_aln (dk D148 9 rfl) rfl).trans ?_
    refine (r_getR (dk D148 10 rfl) ow148 q11_21 ob_1 rfl).trans ?_
    refine (r_getI (dk D148 11 rfl) ow148 q11_107 ob_4).trans ?_
    refine (r_ne0 (dk D148 12 rfl) rfl).trans (ite2 ?_ ?_)
    · refine (r_aln (dk D148 13 rfl) rfl).trans ?_
      refine (r_ic (dk D148 14 rfl) ci5).trans ?_
      exact r_cv (dk D148 15 rfl) ow148 c11_81 mf164 (Nat.le_of_ble_eq_true rfl) rfl rfl (Nat.le_of_ble_eq_true rfl) (Nat.le_of_ble_eq_true rfl) ob_1
    · refine (r_aln (dk D148 17 rfl) rfl).trans ?_
      refine (r_getR (dk D148 18 rfl) ow148 q11_46 ob_1 rfl).trans ?_
      exact r_cv (dk D148 19 rfl) ow148 c11_298 mf78 (Nat.le_of_ble_eq_true rfl) rfl rfl (Nat.le_of_ble_eq_true rfl) (Nat.le_of_ble_eq_true rfl) ob_27
theorem E148_14 {d sl : Nat} {p : Nat → Nat} {I : Nat → Nat → Int32} {J : Nat → Nat → Int64} (l1 : Int32) (s0 : Int32)  : ev d 148 14 [.ref 1, .int l1] [.int s0] (S sl p I J) = some (some (.int s0), (S sl p I J)) := by
  exact r_ret (dk D148 8 rfl) rt148
theorem E148_30 {d sl : Nat} {p : Nat → Nat} {I : Nat → Nat → Int32} {J : Nat → Nat → Int64} (l1 : Int32) (s0 : Int32)  : ev d 148 30 [.ref 1, .int l1] [.int s0] (S sl p I J) = some (some (.int s0), (S sl p I J)) := by
  exact r_ret (dk D148 16 rfl) rt148
theorem E148_38 {d sl : Nat} {p : Nat → Nat} {I : Nat → Nat → Int32} {J : Nat → Nat → Int64} (l1 : Int32)  : ev (d + 1) 148 38 [.ref 1, .int l1] [] (S sl p I J) = ck (ixb 6 l1) (evK (d + 1) 148 52 [.ref 1, .int l1] [] (den d 163 [.ref 1, .int (Int64.toInt32 (J 29 (Int32.toNatClampNeg l1)))] (S sl p I J))) := by
  refine (r_aln (dk D148 20 rfl) rfl).trans ?_
  refine (r_aln (dk D148 21 rfl) rfl).trans ?_
  refine (r_getR (dk D148 22 rfl) ow148 q11_46 ob_1 rfl).trans ?_
  refine (r_getR (dk D148 23 rfl) ow148 q11_301 ob_27 rfl).trans ?_
  refine (r_iln (dk D148 24 rfl) rfl).trans ?_
  refine (r_jld (dk D148 25 rfl) ar_29).trans (ck3 fun g1 => ?_)
  refine (r_l2i (dk D148 26 rfl)).trans ?_
  exact r_cv (dk D148 27 rfl) ow148 c11_92 mf163 (Nat.le_of_ble_eq_true rfl) rfl rfl (Nat.le_of_ble_eq_true rfl) (Nat.le_of_ble_eq_true rfl) ob_1
theorem E148_52 {d sl : Nat} {p : Nat → Nat} {I : Nat → Nat → Int32} {J : Nat → Nat → Int64} (l1 : Int32) (s0 : Int32)  : ev d 148 52 [.ref 1, .int l1] [.int s0] (S sl p I J) = some (some (.int s0), (S sl p I J)) := by
  exact r_ret (dk D148 28 rfl) rt148
set_option maxRecDepth 20000 in
theorem D149 : dOK 149 [(0, .iload_n 2, 1), (1, .iconst 0, 1), (2, .iconst 1, 1), (3, .invokestatic 121, 3), (6, .ifCond .ne 9, 3), (9, .aload_n 0, 1), (10, .iconst 1, 1), (11, .invokevirtual 81, 3), (14, .ireturn, 1), (15, .aload_n 0, 1), (16, .getfield 21, 3), (19, .getfield 107, 3), (22, .ifCond .ne 9, 3), (25, .aload_n 0, 1), (26, .iconst 5, 1), (27, .invokevirtual 81, 3), (30, .ireturn, 1), (31, .aload_n 0, 1), (32, .getfield 46, 3), (35, .invokevirtual 305, 3), (38, .aload_n 0, 1), (39, .iload_n 1, 1), (40, .ifCond .eq 15, 3), (43, .aload_n 0, 1), (44, .getfield 46, 3), (47, .getfield 308, 3), (50, .iload_n 2, 1), (51, .iaload, 1), (52, .goto 12, 3), (55, .aload_n 0, 1), (56, .getfield 46, 3), (59, .getfield 311, 3), (62, .iload_n 2, 1), (63, .iaload, 1), (64, .invokevirtual 92, 3), (67, .ireturn, 1)] = true := by decide +kernel
theorem E149_0 {d sl : Nat} {p : Nat → Nat} {I : Nat → Nat → Int32} {J : Nat → Nat → Int64} (a1 : Int32) (a2 : Int32)  : den (d + 1) 149 [.ref 1, .int a1, .int a2] (S sl p I J) = evK (d + 1) 149 6 [.ref 1, .int a1, .int a2] [] (den d 167 [.int a2, .int 0, .int 1] (S sl p I J)) := by
  refine (show den (d + 1) 149 [.ref 1, .int a1, .int a2] (S sl p I J) = ev (d + 1) 149 0 [.ref 1, .int a1, .int a2] [] (S sl p I J) from rfl).trans ?_
  refine (r_iln (dk D149 0 rfl) rfl).trans ?_
  refine (r_ic (dk D149 1 rfl) ci0).trans ?_
  refine (r_ic (dk D149 2 rfl) ci1).trans ?_
  exact r_cs (dk D149 3 rfl) ow149 pn11_121 c11_121 mf167 (Nat.le_of_ble_eq_true rfl) rfl rfl (Nat.le_of_ble_eq_true rfl) (Nat.le_of_ble_eq_true rfl)
theorem E149_6 {d sl : Nat} {p : Nat → Nat} {I : Nat → Nat → Int32} {J : Nat → Nat → Int64} (l1 : Int32) (l2 : Int32) (s0 : Int32)  : ev (d + 1) 149 6 [.ref 1, .int l1, .int l2] [.int s0] (S sl p I J) = (if s0 = 0 then evK (d + 1) 149 14 [.ref 1, .int l1, .int l2] [] (den d 164 [.ref 1, .int 1] (S sl p I J)) else (if (I 4 8) = 0 then evK (d + 1) 149 30 [.ref 1, .int l1, .int l2] [] (den d 164 [.ref 1, .int 5] (S sl p I J)) else evK (d + 1) 149 38 [.ref 1, .int l1, .int l2] [] (den d 81 [.ref 27] (S sl p I J)))) := by
  refine (r_ne0 (dk D149 4 rfl) rfl).trans (ite2 ?_ ?_)
  · refine (r_aln (dk D149 5 rfl) rfl).trans ?_
    refine (r_ic (dk D149 6 rfl) ci1).trans ?_
    exact r_cv (dk D149 7 rfl) ow149 c11_81 mf164 (Nat.le_of_ble_eq_true rfl) rfl rfl (Nat.le_of_ble_eq_true rfl) (Nat.le_of_ble_eq_true rfl) ob_1
  · refine (r_aln (dk D149 9 rfl) rfl).trans ?_
    refine (r_getR (dk D149 10 rfl) ow149 q11_21 ob_1 rfl).trans ?_
    refine (r_getI (dk D149 11 rfl) ow149 q11_107 ob_4).trans ?_
    refine (r_ne0 (dk D149 12 rfl) rfl).trans (ite2 ?_ ?_)
    · refine (r_aln (dk D149 13 rfl) rfl).trans ?_
      refine (r_ic (dk D149 14 rfl) ci5).trans ?_
      exact r_cv (dk D149 15 rfl) ow149 c11_81 mf164 (Nat.le_of_ble_eq_true rfl) rfl rfl (Nat.le_of_ble_eq_true rfl) (Nat.le_of_ble_eq_true rfl) ob_1
    · refine (r_aln (dk D149 17 rfl) rfl).trans ?_
      refine (r_getR (dk D149 18 rfl) ow149 q11_46 ob_1 rfl).trans ?_
      exact r_cv (dk D149 19 rfl) ow149 c11_305 mf81 (Nat.le_of_ble_eq_true rfl) rfl rfl (Nat.le_of_ble_eq_true rfl) (Nat.le_of_ble_eq_true rfl) ob_27
theorem E149_14 {d sl : Nat} {p : Nat → Nat} {I : Nat → Nat → Int32} {J : Nat → Nat → Int64} (l1 : Int32) (l2 : Int32) (s0 : Int32)  : ev d 149 14 [.ref 1, .int l1, .int l2] [.int s0] (S sl p I J) = some (some (.int s0), (S sl p I J)) := by
  exact r_ret (dk D149 8 rfl) rt149
theorem E149_30 {d sl : Nat} {p : Nat → Nat} {I : Nat → Nat → Int32} {J : Nat → Nat → Int64} (l1 : Int32) (l2 : Int32) (s0 : Int32)  : ev d 149 30 [.ref 1, .int l1, .int l2] [.int s0] (S sl p I J) = some (some (.int s0), (S sl p I J)) := by
  exact r_ret (dk D149 16 rfl) rt149
theorem E149_38 {d sl : Nat} {p : Nat → Nat} {I : Nat → Nat → Int32} {J : Nat → Nat → Int64} (l1 : Int32) (l2 : Int32)  : ev d 149 38 [.ref 1, .int l1, .int l2] [] (S sl p I J) = (if l1 = 0 then ck (ixb 2 l2) (ev d 149 64 [.ref 1, .int l1, .int l2] [.int (I 30 (Int32.toNatClampNeg l2)), .ref 1] (S sl p I J)) else ck (ixb 2 l2) (ev d 149 64 [.ref 1, .int l1, .int l2] [.int (I 31 (Int32.toNatClampNeg l2)), .ref 1] (S sl p I J))) := by
  refine (r_aln (dk D149 20 rfl) rfl).trans ?_
  refine (r_iln (dk D149 21 rfl) rfl).trans ?_
  refine (r_eq0 (dk D149 22 rfl) rfl).trans (ite2 ?_ ?_)
  · refine (r_aln (dk D149 29 rfl) rfl).trans ?_
    refine (r_getR (dk D149 30 rfl) ow149 q11_46 ob_1 rfl).trans ?_
    refine (r_getR (dk D149 31 rfl) ow149 q11_311 ob_27 rfl).trans ?_
    refine (r_iln (dk D149 32 rfl) rfl).trans ?_
    refine (r_ild (dk D149 33 rfl) ar_30).trans (ck3 fun g1 => ?_)
    exact rfl
  · refine (r_aln (dk D149 23 rfl) rfl).trans ?_
    refine (r_getR (dk D149 24 rfl) ow149 q11_46 ob_1 rfl).trans ?_
    refine (r_getR (dk D149 25 rfl) ow149 q11_308 ob_27 rfl).trans ?_
    refine (r_iln (dk D149 26 rfl) rfl).trans ?_
    refine (r_ild (dk D149 27 rfl) ar_31).trans (ck3 fun g2 => ?_)
    refine (r_goto (L' := [.ref 1, .int l1, .int l2]) (dk D149 28 rfl) rfl nd149_64 rfl).trans ?_
    exact rfl
theorem E149_64 {d sl : Nat} {p : Nat → Nat} {I : Nat → Nat → Int32} {J : Nat → Nat → Int64} (l1 : Int32) (l2 : Int32) (s0 : Int32)  : ev (d + 1) 149 64 [.ref 1, .int l1, .int l2] [.int s0, .ref 1] (S sl p I J) = evK (d + 1) 149 67 [.ref 1, .int l1, .int l2] [] (den d 163 [.ref 1, .int s0] (S sl p I J)) := by
  exact r_cv (dk D149 34 rfl) ow149 c11_92 mf163 (Nat.le_of_ble_eq_true rfl) rfl rfl (Nat.le_of_ble_eq_true rfl) (Nat.le_of_ble_eq_true rfl) ob_1
theorem E149_67 {d sl : Nat} {p : Nat → Nat} {I : Nat → Nat → Int32} {J : Nat → Nat → Int64} (l1 : Int32) (l2 : Int32) (s0 : Int32)  : ev d 149 67 [.ref 1, .int l1, .int l2] [.int s0] (S sl p I J) = some (some (.int s0), (S sl p I J)) := by
  exact r_ret (dk D149 35 rfl) rt149
set_option maxRecDepth 20000 in
theorem D150 : dOK 150 [(0, .iload_n 1, 1), (1, .iconst 0, 1), (2, .iconst 2, 1), (3, .invokestatic 121, 3), (6, .ifCond .ne 9, 3), (9, .aload_n 0, 1), (10, .iconst 1, 1), (11, .invokevirtual 81, 3), (14, .ireturn, 1), (15, .aload_n 0, 1), (16, .getfield 21, 3), (19, .getfield 107, 3), (22, .ifCond .ne 9, 3), (25, .aload_n 0, 1), (26, .iconst 5, 1), (27, .invokevirtual 81, 3), (30, .ireturn, 1), (31, .aload_n 0, 1), (32, .getfield 46, 3), (35, .invokevirtual 314, 3), (38, .aload_n 0, 1), (39, .aload_n 0, 1), (40, .getfield 46, 3), (43, .getfield 317, 3), (46, .iload_n 1, 1), (47, .iaload, 1), (48, .invokevirtual 92, 3), (51, .ireturn, 1)] = true := by decide +kernel
theorem E150_0 {d sl : Nat} {p : Nat → Nat} {I : Nat → Nat → Int32} {J : Nat → Nat → Int64} (a1 : Int32)  : den (d + 1) 150 [.ref 1, .int a1] (S sl p I J) = evK (d + 1) 150 6 [.ref 1, .int a1] [] (den d 167 [.int a1, .int 0, .int 2] (S sl p I J)) := by
  refine (show den (d + 1) 150 [.ref 1, .int a1] (S sl p I J) = ev (d + 1) 150 0 [.ref 1, .int a1] [] (S sl p I J) from rfl).trans ?_
  refine (r_iln (dk D150 0 rfl) rfl).trans ?_
  refine (r_ic (dk D150 1 rfl) ci0).trans ?_
  refine (r_ic (dk D150 2 rfl) ci2).trans ?_
  exact r_cs (dk D150 3 rfl) ow150 pn11_121 c11_121 mf167 (Nat.le_of_ble_eq_true rfl) rfl rfl (Nat.le_of_ble_eq_true rfl) (Nat.le_of_ble_eq_true rfl)
theorem E150_6 {d sl : Nat} {p : Nat → Nat} {I : Nat → Nat → Int32} {J : Nat → Nat → Int64} (l1 : Int32) (s0 : Int32)  : ev (d + 1) 150 6 [.ref 1, .int l1] [.int s0] (S sl p I J) = (if s0 = 0 then evK (d + 1) 150 14 [.ref 1, .int l1] [] (den d 164 [.ref 1, .int 1] (S sl p I J)) else (if (I 4 8) = 0 then evK (d + 1) 150 30 [.ref 1, .int l1] [] (den d 164 [.ref 1, .int 5] (S sl p I J)) else evK (d + 1) 150 38 [.ref 1, .int l1] [] (den d 83 [.ref 27] (S sl p I J)))) := by
  refine (r_ne0 (dk D150 4 rfl) rfl).trans (ite2 ?_ ?_)
  · refine (r_aln (dk D150 5 rfl) rfl).trans ?_
    refine (r_ic (dk D150 6 rfl) ci1).trans ?_
    exact r_cv (dk D150 7 rfl) ow150 c11_81 mf164 (Nat.le_of_ble_eq_true rfl) rfl rfl (Nat.le_of_ble_eq_true rfl) (Nat.le_of_ble_eq_true rfl) ob_1
  · refine (r_aln (dk D150 9 rfl) rfl).trans ?_
    refine (r_getR (dk D150 10 rfl) ow150 q11_21 ob_1 rfl).trans ?_
    refine (r_getI (dk D150 11 rfl) ow150 q11_107 ob_4).trans ?_
    refine (r_ne0 (dk D150 12 rfl) rfl).trans (ite2 ?_ ?_)
    · refine (r_aln (dk D150 13 rfl) rfl).trans ?_
      refine (r_ic (dk D150 14 rfl) ci5).trans ?_
      exact r_cv (dk D150 15 rfl) ow150 c11_81 mf164 (Nat.le_of_ble_eq_true rfl) rfl rfl (Nat.le_of_ble_eq_true rfl) (Nat.le_of_ble_eq_true rfl) ob_1
    · refine (r_aln (dk D150 17 rfl) rfl).trans ?_
      refine (r_getR (dk D150 18 rfl) ow150 q11_46 ob_1 rfl).trans ?_
      exact r_cv (dk D150 19 rfl) ow150 c11_314 mf83 (Nat.le_of_ble_eq_true rfl) rfl rfl (Nat.le_of_ble_eq_true rfl) (Nat.le_of_ble_eq_true rfl) ob_27
theorem E150_14 {d sl : Nat} {p : Nat → Nat} {I : Nat → Nat → Int32} {J : Nat → Nat → Int64} (l1 : Int32) (s0 : Int32)  : ev d 150 14 [.ref 1, .int l1] [.int s0] (S sl p I J) = some (some (.int s0), (S sl p I J)) := by
  exact r_ret (dk D150 8 rfl) rt150
theorem E150_30 {d sl : Nat} {p : Nat → Nat} {I : Nat → Nat → Int32} {J : Nat → Nat → Int64} (l1 : Int32) (s0 : Int32)  : ev d 150 30 [.ref 1, .int l1] [.int s0] (S sl p I J) = some (some (.int s0), (S sl p I J)) := by
  exact r_ret (dk D150 16 rfl) rt150
theorem E150_38 {d sl : Nat} {p : Nat → Nat} {I : Nat → Nat → Int32} {J : Nat → Nat → Int64} (l1 : Int32)  : ev (d + 1) 150 38 [.ref 1, .int l1] [] (S sl p I J) = ck (ixb 3 l1) (evK (d + 1) 150 51 [.ref 1, .int l1] [] (den d 163 [.ref 1, .int (I 32 (Int32.toNatClampNeg l1))] (S sl p I J))) := by
  refine (r_aln (dk D150 20 rfl) rfl).trans ?_
  refine (r_aln (dk D150 21 rfl) rfl).trans ?_
  refine (r_getR (dk D150 22 rfl) ow150 q11_46 ob_1 rfl).trans ?_
  refine (r_getR (dk D150 23 rfl) ow150 q11_317 ob_27 rfl).trans ?_
  refine (r_iln (dk D150 24 rfl) rfl).trans ?_
  refine (r_ild (dk D150 25 rfl) ar_32).trans (ck3 fun g1 => ?_)
  exact r_cv (dk D150 26 rfl) ow150 c11_92 mf163 (Nat.le_of_ble_eq_true rfl) rfl rfl (Nat.le_of_ble_eq_true rfl) (Nat.le_of_ble_eq_true rfl) ob_1
theorem E150_51 {d sl : Nat} {p : Nat → Nat} {I : Nat → Nat → Int32} {J : Nat → Nat → Int64} (l1 : Int32) (s0 : Int32)  : ev d 150 51 [.ref 1, .int l1] [.int s0] (S sl p I J) = some (some (.int s0), (S sl p I J)) := by
  exact r_ret (dk D150 27 rfl) rt150
set_option maxRecDepth 20000 in
theorem D151 : dOK 151 [(0, .iload_n 1, 1), (1, .iload_n 2, 1), (2, .invokestatic 95, 3), (5, .ifCond .eq 13, 3), (8, .iload_n 3, 1), (9, .iconst 0, 1), (10, .bipush 90, 2), (12, .invokestatic 121, 3), (15, .ifCond .ne 9, 3), (18, .aload_n 0, 1), (19, .iconst 1, 1), (20, .invokevirtual 81, 3), (23, .ireturn, 1), (24, .aload_n 0, 1), (25, .getfield 10, 3), (28, .iload_n 1, 1), (29, .iload_n 2, 1), (30, .aload_n 0, 1), (31, .getfield 69, 3), (34, .invokevirtual 277, 3), (37, .aload_n 0, 1), (38, .aload_n 0, 1), (39, .getfield 21, 3), (42, .aload_n 0, 1), (43, .getfield 69, 3), (46, .iload_n 3, 1), (47, .invokevirtual 320, 3), (50, .invokevirtual 92, 3), (53, .ireturn, 1)] = true := by decide +kernel
theorem E151_0 {d sl : Nat} {p : Nat → Nat} {I : Nat → Nat → Int32} {J : Nat → Nat → Int64} (a1 : Int32) (a2 : Int32) (a3 : Int32)  : den (d + 1) 151 [.ref 1, .int a1, .int a2, .int a3] (S sl p I J) = evK (d + 1) 151 5 [.ref 1, .int a1, .int a2, .int a3] [] (den d 168 [.int a1, .int a2] (S sl p I J)) := by
  refine (show den (d + 1) 151 [.ref 1, .int a1, .int a2, .int a3] (S sl p I J) = ev (d + 1) 151 0 [.ref 1, .int a1, .int a2, .int a3] [] (S sl p I J) from rfl).trans ?_
  refine (r_iln (dk D151 0 rfl) rfl).trans ?_
  refine (r_iln (dk D151 1 rfl) rfl).trans ?_
  exact r_cs (dk D151 2 rfl) ow151 pn11_95 c11_95 mf168 (Nat.le_of_ble_eq_true rfl) rfl rfl (Nat.le_of_ble_eq_true rfl) (Nat.le_of_ble_eq_true rfl)
theorem E151_5 {d sl : Nat} {p : Nat → Nat} {I : Nat → Nat → Int32} {J : Nat → Nat → Int64} (l1 : Int32) (l2 : Int32) (l3 : Int32) (s0 : Int32)  : ev (d + 1) 151 5 [.ref 1, .int l1, .int l2, .int l3] [.int s0] (S sl p I J) = (if s0 = 0 then ev (d + 1) 151 18 [.ref 1, .int l1, .int l2, .int l3] [] (S sl p I J) else evK (d + 1) 151 15 [.ref 1, .int l1, .int l2, .int l3] [] (den d 167 [.int l3, .int 0, .int 90] (S sl p I J))) := by
  refine (r_eq0 (dk D151 3 rfl) rfl).trans (ite2 ?_ ?_)
  · exact rfl
  · refine (r_iln (dk D151 4 rfl) rfl).trans ?_
    refine (r_ic (dk D151 5 rfl) ci0).trans ?_
    refine (r_bp (dk D151 6 rfl) cb90).trans ?_
    exact r_cs (dk D151 7 rfl) ow151 pn11_121 c11_121 mf167 (Nat.le_of_ble_eq_true rfl) rfl rfl (Nat.le_of_ble_eq_true rfl) (Nat.le_of_ble_eq_true rfl)
theorem E151_15 {d sl : Nat} {p : Nat → Nat} {I : Nat → Nat → Int32} {J : Nat → Nat → Int64} (l1 : Int32) (l2 : Int32) (l3 : Int32) (s0 : Int32)  : ev (d + 1) 151 15 [.ref 1, .int l1, .int l2, .int l3] [.int s0] (S sl p I J) = (if s0 = 0 then ev (d + 1) 151 18 [.ref 1, .int l1, .int l2, .int l3] [] (S sl p I J) else evK (d + 1) 151 37 [.ref 1, .int l1, .int l2, .int l3] [] (den d 28 [.ref 2, .int l1, .int l2, .ref 45] (S sl p I J))) := by
  refine (r_ne0 (dk D151 8 rfl) rfl).trans (ite2 ?_ ?_)
  · exact rfl
  · refine (r_aln (dk D151 13 rfl) rfl).trans ?_
    refine (r_getR (dk D151 14 rfl) ow151 q11_10 ob_1 rfl).trans ?_
    refine (r_iln (dk D151 15 rfl) rfl).trans ?_
    refine (r_iln (dk D151 16 rfl) rfl).trans ?_
    refine (r_aln (dk D151 17 rfl) rfl).trans ?_
    refine (r_getR (dk D151 18 rfl) ow151 q11_69 ob_1 rfl).trans ?_
    exact r_cv (dk D151 19 rfl) ow151 c11_277 mf28 (Nat.le_of_ble_eq_true rfl) rfl rfl (Nat.le_of_ble_eq_true rfl) (Nat.le_of_ble_eq_true rfl) ob_2
theorem E151_18 {d sl : Nat} {p : Nat → Nat} {I : Nat → Nat → Int32} {J : Nat → Nat → Int64} (l1 : Int32) (l2 : Int32) (l3 : Int32)  : ev (d + 1) 151 18 [.ref 1, .int l1, .int l2, .int l3] [] (S sl p I J) = evK (d + 1) 151 23 [.ref 1, .int l1, .int l2, .int l3] [] (den d 164 [.ref 1, .int 1] (S sl p I J)) := by
  refine (r_aln (dk D151 9 rfl) rfl).trans ?_
  refine (r_ic (dk D151 10 rfl) ci1).trans ?_
  exact r_cv (dk D151 11 rfl) ow151 c11_81 mf164 (Nat.le_of_ble_eq_true rfl) rfl rfl (Nat.le_of_ble_eq_true rfl) (Nat.le_of_ble_eq_true rfl) ob_1
theorem E151_23 {d sl : Nat} {p : Nat → Nat} {I : Nat → Nat → Int32} {J : Nat → Nat → Int64} (l1 : Int32) (l2 : Int32) (l3 : Int32) (s0 : Int32)  : ev d 151 23 [.ref 1, .int l1, .int l2, .int l3] [.int s0] (S sl p I J) = some (some (.int s0), (S sl p I J)) := by
  exact r_ret (dk D151 12 rfl) rt151
theorem E151_37 {d sl : Nat} {p : Nat → Nat} {I : Nat → Nat → Int32} {J : Nat → Nat → Int64} (l1 : Int32) (l2 : Int32) (l3 : Int32)  : ev (d + 1) 151 37 [.ref 1, .int l1, .int l2, .int l3] [] (S sl p I J) = evK (d + 1) 151 50 [.ref 1, .int l1, .int l2, .int l3] [.ref 1] (den d 76 [.ref 4, .ref 45, .int l3] (S sl p I J)) := by
  refine (r_aln (dk D151 20 rfl) rfl).trans ?_
  refine (r_aln (dk D151 21 rfl) rfl).trans ?_
  refine (r_getR (dk D151 22 rfl) ow151 q11_21 ob_1 rfl).trans ?_
  refine (r_aln (dk D151 23 rfl) rfl).trans ?_
  refine (r_getR (dk D151 24 rfl) ow151 q11_69 ob_1 rfl).trans ?_
  refine (r_iln (dk D151 25 rfl) rfl).trans ?_
  exact r_cv (dk D151 26 rfl) ow151 c11_320 mf76 (Nat.le_of_ble_eq_true rfl) rfl rfl (Nat.le_of_ble_eq_true rfl) (Nat.le_of_ble_eq_true rfl) ob_4
theorem E151_50 {d sl : Nat} {p : Nat → Nat} {I : Nat → Nat → Int32} {J : Nat → Nat → Int64} (l1 : Int32) (l2 : Int32) (l3 : Int32) (s0 : Int32)  : ev (d + 1) 151 50 [.ref 1, .int l1, .int l2, .int l3] [.int s0, .ref 1] (S sl p I J) = evK (d + 1) 151 53 [.ref 1, .int l1, .int l2, .int l3] [] (den d 163 [.ref 1, .int s0] (S sl p I J)) := by
  exact r_cv (dk D151 27 rfl) ow151 c11_92 mf163 (Nat.le_of_ble_eq_true rfl) rfl rfl (Nat.le_of_ble_eq_true rfl) (Nat.le_of_ble_eq_true rfl) ob_1
theorem E151_53 {d sl : Nat} {p : Nat → Nat} {I : Nat → Nat → Int32} {J : Nat → Nat → Int64} (l1 : Int32) (l2 : Int32) (l3 : Int32) (s0 : Int32)  : ev d 151 53 [.ref 1, .int l1, .int l2, .int l3] [.int s0] (S sl p I J) = some (some (.int s0), (S sl p I J)) := by
  exact r_ret (dk D151 28 rfl) rt151
set_option maxRecDepth 20000 in
theorem D152 : dOK 152 [(0, .iload_n 1, 1), (1, .iconst 0, 1), (2, .bipush 90, 2), (4, .invokestatic 121, 3), (7, .ifCond .eq 12, 3), (10, .iload_n 2, 1), (11, .iconst 0, 1), (12, .iconst 2, 1), (13, .invokestatic 121, 3), (16, .ifCond .ne 9, 3), (19, .aload_n 0, 1), (20, .iconst 1, 1), (21, .invokevirtual 81, 3), (24, .ireturn, 1), (25, .aload_n 0, 1), (26, .getfield 21, 3), (29, .getfield 107, 3), (32, .ifCond .ne 9, 3), (35, .aload_n 0, 1), (36, .iconst 5, 1), (37, .invokevirtual 81, 3), (40, .ireturn, 1), (41, .aload_n 0, 1), (42, .getfield 46, 3), (45, .iload_n 1, 1), (46, .invokevirtual 323, 3), (49, .aload_n 0, 1), (50, .aload_n 0, 1), (51, .getfield 46, 3), (54, .getfield 326, 3), (57, .iload_n 2, 1), (58, .iaload, 1), (59, .invokevirtual 92, 3), (62, .ireturn, 1)] = true := by decide +kernel
theorem E152_0 {d sl : Nat} {p : Nat → Nat} {I : Nat → Nat → Int32} {J : Nat → Nat → Int64} (a1 : Int32) (a2 : Int32)  : den (d + 1) 152 [.ref 1, .int a1, .int a2] (S sl p I J) = evK (d + 1) 152 7 [.ref 1, .int a1, .int a2] [] (den d 167 [.int a1, .int 0, .int 90] (S sl p I J)) := by
  refine (show den (d + 1) 152 [.ref 1, .int a1, .int a2] (S sl p I J) = ev (d + 1) 152 0 [.ref 1, .int a1, .int a2] [] (S sl p I J) from rfl).trans ?_
  refine (r_iln (dk D152 0 rfl) rfl).trans ?_
  refine (r_ic (dk D152 1 rfl) ci0).trans ?_
  refine (r_bp (dk D152 2 rfl) cb90).trans ?_
  exact r_cs (dk D152 3 rfl) ow152 pn11_121 c11_121 mf167 (Nat.le_of_ble_eq_true rfl) rfl rfl (Nat.le_of_ble_eq_true rfl) (Nat.le_of_ble_eq_true rfl)
theorem E152_7 {d sl : Nat} {p : Nat → Nat} {I : Nat → Nat → Int32} {J : Nat → Nat → Int64} (l1 : Int32) (l2 : Int32) (s0 : Int32)  : ev (d + 1) 152 7 [.ref 1, .int l1, .int l2] [.int s0] (S sl p I J) = (if s0 = 0 then ev (d + 1) 152 19 [.ref 1, .int l1, .int l2] [] (S sl p I J) else evK (d + 1) 152 16 [.ref 1, .int l1, .int l2] [] (den d 167 [.int l2, .int 0, .int 2] (S sl p I J))) := by
  refine (r_eq0 (dk D152 4 rfl) rfl).trans (ite2 ?_ ?_)
  · exact rfl
  · refine (r_iln (dk D152 5 rfl) rfl).trans ?_
    refine (r_ic (dk D152 6 rfl) ci0).trans ?_
    refine (r_ic (dk D152 7 rfl) ci2).trans ?_
    exact r_cs (dk D152 8 rfl) ow152 pn11_121 c11_121 mf167 (Nat.le_of_ble_eq_true rfl) rfl rfl (Nat.le_of_ble_eq_true rfl) (Nat.le_of_ble_eq_true rfl)
theorem E152_16 {d sl : Nat} {p : Nat → Nat} {I : Nat → Nat → Int32} {J : Nat → Nat → Int64} (l1 : Int32) (l2 : Int32) (s0 : Int32)  : ev (d + 1) 152 16 [.ref 1, .int l1, .int l2] [.int s0] (S sl p I J) = (if s0 = 0 then ev (d + 1) 152 19 [.ref 1, .int l1, .int l2] [] (S sl p I J) else (if (I 4 8) = 0 then evK (d + 1) 152 40 [.ref 1, .int l1, .int l2] [] (den d 164 [.ref 1, .int 5] (S sl p I J)) else evK (d + 1) 152 49 [.ref 1, .int l1, .int l2] [] (den d 85 [.ref 27, .int l1] (S sl p I J)))) := by
  refine (r_ne0 (dk D152 9 rfl) rfl).trans (ite2 ?_ ?_)
  · exact rfl
  · refine (r_aln (dk D152 14 rfl) rfl).trans ?_
    refine (r_getR (dk D152 15 rfl) ow152 q11_21 ob_1 rfl).trans ?_
    refine (r_getI (dk D152 16 rfl) ow152 q11_107 ob_4).trans ?_
    refine (r_ne0 (dk D152 17 rfl) rfl).trans (ite2 ?_ ?_)
    · refine (r_aln (dk D152 18 rfl) rfl).trans ?_
      refine (r_ic (dk D152 19 rfl) ci5).trans ?_
      exact r_cv (dk D152 20 rfl) ow152 c11_81 mf164 (Nat.le_of_ble_eq_true rfl) rfl rfl (Nat.le_of_ble_eq_true rfl) (Nat.le_of_ble_eq_true rfl) ob_1
    · refine (r_aln (dk D152 22 rfl) rfl).trans ?_
      refine (r_getR (dk D152 23 rfl) ow152 q11_46 ob_1 rfl).trans ?_
      refine (r_iln (dk D152 24 rfl) rfl).trans ?_
      exact r_cv (dk D152 25 rfl) ow152 c11_323 mf85 (Nat.le_of_ble_eq_true rfl) rfl rfl (Nat.le_of_ble_eq_true rfl) (Nat.le_of_ble_eq_true rfl) ob_27
theorem E152_19 {d sl : Nat} {p : Nat → Nat} {I : Nat → Nat → Int32} {J : Nat → Nat → Int64} (l1 : Int32) (l2 : Int32)  : ev (d + 1) 152 19 [.ref 1, .int l1, .int l2] [] (S sl p I J) = evK (d + 1) 152 24 [.ref 1, .int l1, .int l2] [] (den d 164 [.ref 1, .int 1] (S sl p I J)) := by
  refine (r_aln (dk D152 10 rfl) rfl).trans ?_
  refine (r_ic (dk D152 11 rfl) ci1).trans ?_
  exact r_cv (dk D152 12 rfl) ow152 c11_81 mf164 (Nat.le_of_ble_eq_true rfl) rfl rfl (Nat.le_of_ble_eq_true rfl) (Nat.le_of_ble_eq_true rfl) ob_1
theorem E152_24 {d sl : Nat} {p : Nat → Nat} {I : Nat → Nat → Int32} {J : Nat → Nat → Int64} (l1 : Int32) (l2 : Int32) (s0 : Int32)  : ev d 152 24 [.ref 1, .int l1, .int l2] [.int s0] (S sl p I J) = some (some (.int s0), (S sl p I J)) := by
  exact r_ret (dk D152 13 rfl) rt152
theorem E152_40 {d sl : Nat} {p : Nat → Nat} {I : Nat → Nat → Int32} {J : Nat → Nat → Int64} (l1 : Int32) (l2 : Int32) (s0 : Int32)  : ev d 152 40 [.ref 1, .int l1, .int l2] [.int s0] (S sl p I J) = some (some (.int s0), (S sl p I J)) := by
  exact r_ret (dk D152 21 rfl) rt152
theorem E152_49 {d sl : Nat} {p : Nat → Nat} {I : Nat → Nat → Int32} {J : Nat → Nat → Int64} (l1 : Int32) (l2 : Int32)  : ev (d + 1) 152 49 [.ref 1, .int l1, .int l2] [] (S sl p I J) = ck (ixb 3 l2) (evK (d + 1) 152 62 [.ref 1, .int l1, .int l2] [] (den d 163 [.ref 1, .int (I 33 (Int32.toNatClampNeg l2))] (S sl p I J))) := by
  refine (r_aln (dk D152 26 rfl) rfl).trans ?_
  refine (r_aln (dk D152 27 rfl) rfl).trans ?_
  refine (r_getR (dk D152 28 rfl) ow152 q11_46 ob_1 rfl).trans ?_
  refine (r_getR (dk D152 29 rfl) ow152 q11_326 ob_27 rfl).trans ?_
  refine (r_iln (dk D152 30 rfl) rfl).trans ?_
  refine (r_ild (dk D152 31 rfl) ar_33).trans (ck3 fun g1 => ?_)
  exact r_cv (dk D152 32 rfl) ow152 c11_92 mf163 (Nat.le_of_ble_eq_true rfl) rfl rfl (Nat.le_of_ble_eq_true rfl) (Nat.le_of_ble_eq_true rfl) ob_1
theorem E152_62 {d sl : Nat} {p : Nat → Nat} {I : Nat → Nat → Int32} {J : Nat → Nat → Int64} (l1 : Int32) (l2 : Int32) (s0 : Int32)  : ev d 152 62 [.ref 1, .int l1, .int l2] [.int s0] (S sl p I J) = some (some (.int s0), (S sl p I J)) := by
  exact r_ret (dk D152 33 rfl) rt152
set_option maxRecDepth 20000 in
theorem D153 : dOK 153 [(0, .iload_n 3, 1), (1, .iconst 0, 1), (2, .iconst 2, 1), (3, .invokestatic 121, 3), (6, .ifCond .ne 9, 3), (9, .aload_n 0, 1), (10, .iconst 1, 1), (11, .invokevirtual 81, 3), (14, .ireturn, 1), (15, .aload_n 0, 1), (16, .getfield 30, 3), (19, .iload_n 1, 1), (20, .invokevirtual 193, 3), (23, .ifCond .eq 14, 3), (26, .aload_n 0, 1), (27, .getfield 21, 3), (30, .iload_n 2, 1), (31, .invokevirtual 99, 3), (34, .ifCond .ne 9, 3), (37, .aload_n 0, 1), (38, .iconst 2, 1), (39, .invokevirtual 81, 3), (42, .ireturn, 1), (43, .aload_n 0, 1), (44, .getfield 30, 3), (47, .iload_n 1, 1), (48, .iload_n 2, 1), (49, .invokevirtual 329, 3), (52, .iconst 1, 1), (53, .isub, 1), (54, .istore 4, 2), (56, .iload 4, 2), (58, .iconst 1, 1), (59, .if_icmp .ge 9, 3), (62, .aload_n 0, 1), (63, .iconst 5, 1), (64, .invokevirtual 81, 3), (67, .ireturn, 1), (68, .iload_n 3, 1), (69, .ifCond .ne 10, 3), (72, .aload_n 0, 1), (73, .iload 4, 2), (75, .invokevirtual 92, 3), (78, .ireturn, 1), (79, .aload_n 0, 1), (80, .iload_n 3, 1), (81, .iconst 1, 1), (82, .if_icmp .ne 15, 3), (85, .aload_n 0, 1), (86, .getfield 30, 3), (89, .iload_n 1, 1), (90, .iload_n 2, 1), (91, .invokevirtual 332, 3), (94, .goto 12, 3), (97, .aload_n 0, 1), (98, .getfield 30, 3), (101, .iload_n 1, 1), (102, .iload_n 2, 1), (103, .invokevirtual 335, 3), (106, .invokevirtual 92, 3), (109, .ireturn, 1)] = true := by decide +kernel
theorem E153_0 {d sl : Nat} {p : Nat → Nat} {I : Nat → Nat → Int32} {J : Nat → Nat → Int64} (a1 : Int32) (a2 : Int32) (a3 : Int32)  : den (d + 1) 153 [.ref 1, .int a1, .int a2, .int a3] (S sl p I J) = evK (d + 1) 153 6 [.ref 1, .int a1, .int a2, .int a3, .retAddr 0] [] (den d 167 [.int a3, .int 0, .int 2] (S sl p I J)) := by
  refine (show den (d + 1) 153 [.ref 1, .int a1, .int a2, .int a3] (S sl p I J) = ev (d + 1) 153 0 [.ref 1, .int a1, .int a2, .int a3, .retAddr 0] [] (S sl p I J) from rfl).trans ?_
  refine (r_iln (dk D153 0 rfl) rfl).trans ?_
  refine (r_ic (dk D153 1 rfl) ci0).trans ?_
  refine (r_ic (dk D153 2 rfl) ci2).trans ?_
  exact r_cs (dk D153 3 rfl) ow153 pn11_121 c11_121 mf167 (Nat.le_of_ble_eq_true rfl) rfl rfl (Nat.le_of_ble_eq_true rfl) (Nat.le_of_ble_eq_true rfl)
theorem E153_6 {d sl : Nat} {p : Nat → Nat} {I : Nat → Nat → Int32} {J : Nat → Nat → Int64} (l1 : Int32) (l2 : Int32) (l3 : Int32) (s0 : Int32)  : ev (d + 1) 153 6 [.ref 1, .int l1, .int l2, .int l3, .retAddr 0] [.int s0] (S sl p I J) = (if s0 = 0 then evK (d + 1) 153 14 [.ref 1, .int l1, .int l2, .int l3, .retAddr 0] [] (den d 164 [.ref 1, .int 1] (S sl p I J)) else evK (d + 1) 153 23 [.ref 1, .int l1, .int l2, .int l3, .retAddr 0] [] (den d 100 [.ref 11, .int l1] (S sl p I J))) := by
  refine (r_ne0 (dk D153 4 rfl) rfl).trans (ite2 ?_ ?_)
  · refine (r_aln (dk D153 5 rfl) rfl).trans ?_
    refine (r_ic (dk D153 6 rfl) ci1).trans ?_
    exact r_cv (dk D153 7 rfl) ow153 c11_81 mf164 (Nat.le_of_ble_eq_true rfl) rfl rfl (Nat.le_of_ble_eq_true rfl) (Nat.le_of_ble_eq_true rfl) ob_1
  · refine (r_aln (dk D153 9 rfl) rfl).trans ?_
    refine (r_getR (dk D153 10 rfl) ow153 q11_30 ob_1 rfl).trans ?_
    refine (r_iln (dk D153 11 rfl) rfl).trans ?_
    exact r_cv (dk D153 12 rfl) ow153 c11_193 mf100 (Nat.le_of_ble_eq_true rfl) rfl rfl (Nat.le_of_ble_eq_true rfl) (Nat.le_of_ble_eq_true rfl) ob_11
theorem E153_14 {d sl : Nat} {p : Nat → Nat} {I : Nat → Nat → Int32} {J : Nat → Nat → Int64} (l1 : Int32) (l2 : Int32) (l3 : Int32) (s0 : Int32)  : ev d 153 14 [.ref 1, .int l1, .int l2, .int l3, .retAddr 0] [.int s0] (S sl p I J) = some (some (.int s0), (S sl p I J)) := by
  exact r_ret (dk D153 8 rfl) rt153
theorem E153_23 {d sl : Nat} {p : Nat → Nat} {I : Nat → Nat → Int32} {J : Nat → Nat → Int64} (l1 : Int32) (l2 : Int32) (l3 : Int32) (s0 : Int32)  : ev (d + 1) 153 23 [.ref 1, .int l1, .int l2, .int l3, .retAddr 0] [.int s0] (S sl p I J) = (if s0 = 0 then ev (d + 1) 153 37 [.ref 1, .int l1, .int l2, .int l3, .retAddr 0] [] (S sl p I J) else evK (d + 1) 153 34 [.ref 1, .int l1, .int l2, .int l3, .retAddr 0] [] (den d 59 [.ref 4, .int l2] (S sl p I J))) := by
  refine (r_eq0 (dk D153 13 rfl) rfl).trans (ite2 ?_ ?_)
  · exact rfl
  · refine (r_aln (dk D153 14 rfl) rfl).trans ?_
    refine (r_getR (dk D153 15 rfl) ow153 q11_21 ob_1 rfl).trans ?_
    refine (r_iln (dk D153 16 rfl) rfl).trans ?_
    exact r_cv (dk D153 17 rfl) ow153 c11_99 mf59 (Nat.le_of_ble_eq_true rfl) rfl rfl (Nat.le_of_ble_eq_true rfl) (Nat.le_of_ble_eq_true rfl) ob_4
theorem E153_34 {d sl : Nat} {p : Nat → Nat} {I : Nat → Nat → Int32} {J : Nat → Nat → Int64} (l1 : Int32) (l2 : Int32) (l3 : Int32) (s0 : Int32)  : ev (d + 1) 153 34 [.ref 1, .int l1, .int l2, .int l3, .retAddr 0] [.int s0] (S sl p I J) = (if s0 = 0 then ev (d + 1) 153 37 [.ref 1, .int l1, .int l2, .int l3, .retAddr 0] [] (S sl p I J) else evK (d + 1) 153 52 [.ref 1, .int l1, .int l2, .int l3, .retAddr 0] [] (den d 114 [.ref 11, .int l1, .int l2] (S sl p I J))) := by
  refine (r_ne0 (dk D153 18 rfl) rfl).trans (ite2 ?_ ?_)
  · exact rfl
  · refine (r_aln (dk D153 23 rfl) rfl).trans ?_
    refine (r_getR (dk D153 24 rfl) ow153 q11_30 ob_1 rfl).trans ?_
    refine (r_iln (dk D153 25 rfl) rfl).trans ?_
    refine (r_iln (dk D153 26 rfl) rfl).trans ?_
    exact r_cv (dk D153 27 rfl) ow153 c11_329 mf114 (Nat.le_of_ble_eq_true rfl) rfl rfl (Nat.le_of_ble_eq_true rfl) (Nat.le_of_ble_eq_true rfl) ob_11
theorem E153_37 {d sl : Nat} {p : Nat → Nat} {I : Nat → Nat → Int32} {J : Nat → Nat → Int64} (l1 : Int32) (l2 : Int32) (l3 : Int32)  : ev (d + 1) 153 37 [.ref 1, .int l1, .int l2, .int l3, .retAddr 0] [] (S sl p I J) = evK (d + 1) 153 42 [.ref 1, .int l1, .int l2, .int l3, .retAddr 0] [] (den d 164 [.ref 1, .int 2] (S sl p I J)) := by
  refine (r_aln (dk D153 19 rfl) rfl).trans ?_
  refine (r_ic (dk D153 20 rfl) ci2).trans ?_
  exact r_cv (dk D153 21 rfl) ow153 c11_81 mf164 (Nat.le_of_ble_eq_true rfl) rfl rfl (Nat.le_of_ble_eq_true rfl) (Nat.le_of_ble_eq_true rfl) ob_1
theorem E153_42 {d sl : Nat} {p : Nat → Nat} {I : Nat → Nat → Int32} {J : Nat → Nat → Int64} (l1 : Int32) (l2 : Int32) (l3 : Int32) (s0 : Int32)  : ev d 153 42 [.ref 1, .int l1, .int l2, .int l3, .retAddr 0] [.int s0] (S sl p I J) = some (some (.int s0), (S sl p I J)) := by
  exact r_ret (dk D153 22 rfl) rt153
theorem E153_52 {d sl : Nat} {p : Nat → Nat} {I : Nat → Nat → Int32} {J : Nat → Nat → Int64} (l1 : Int32) (l2 : Int32) (l3 : Int32) (s0 : Int32)  : ev (d + 1) 153 52 [.ref 1, .int l1, .int l2, .int l3, .retAddr 0] [.int s0] (S sl p I J) = (if (s0 - 1) < 1 then evK (d + 1) 153 67 [.ref 1, .int l1, .int l2, .int l3, .int (s0 - 1)] [] (den d 164 [.ref 1, .int 5] (S sl p I J)) else (if l3 = 0 then evK (d + 1) 153 78 [.ref 1, .int l1, .int l2, .int l3, .int (s0 - 1)] [] (den d 163 [.ref 1, .int (s0 - 1)] (S sl p I J)) else (if l3 = 1 then evK (d + 1) 153 94 [.ref 1, .int l1, .int l2, .int l3, .int (s0 - 1)] [.ref 1] (den d 115 [.ref 11, .int l1, .int l2] (S sl p I J)) else evK (d + 1) 153 106 [.ref 1, .int l1, .int l2, .int l3, .int (s0 - 1)] [.ref 1] (den d 116 [.ref 11, .int l1, .int l2] (S sl p I J))))) := by
  refine (r_ic (dk D153 28 rfl) ci1).trans ?_
  refine (r_isub (dk D153 29 rfl)).trans ?_
  refine (r_is (L' := [.ref 1, .int l1, .int l2, .int l3, .int (s0 - 1)]) (dk D153 30 rfl) (Nat.le_of_ble_eq_true rfl) rfl).trans ?_
  refine (r_il (dk D153 31 rfl) rfl).trans ?_
  refine (r_ic (dk D153 32 rfl) ci1).trans ?_
  refine (r_ge (dk D153 33 rfl) rfl).trans (ite2 ?_ ?_)
  · refine (r_aln (dk D153 34 rfl) rfl).trans ?_
    refine (r_ic (dk D153 35 rfl) ci5).trans ?_
    exact r_cv (dk D153 36 rfl) ow153 c11_81 mf164 (Nat.le_of_ble_eq_true rfl) rfl rfl (Nat.le_of_ble_eq_true rfl) (Nat.le_of_ble_eq_true rfl) ob_1
  · refine (r_iln (dk D153 38 rfl) rfl).trans ?_
    refine (r_ne0 (dk D153 39 rfl) rfl).trans (ite2 ?_ ?_)
    · refine (r_aln (dk D153 40 rfl) rfl).trans ?_
      refine (r_il (dk D153 41 rfl) rfl).trans ?_
      exact r_cv (dk D153 42 rfl) ow153 c11_92 mf163 (Nat.le_of_ble_eq_true rfl) rfl rfl (Nat.le_of_ble_eq_true rfl) (Nat.le_of_ble_eq_true rfl) ob_1
    · refine (r_aln (dk D153 44 rfl) rfl).trans ?_
      refine (r_iln (dk D153 45 rfl) rfl).trans ?_
      refine (r_ic (dk D153 46 rfl) ci1).trans ?_
      refine (r_ne (dk D153 47 rfl) rfl).trans (ite2 ?_ ?_)
      · refine (r_aln (dk D153 48 rfl) rfl).trans ?_
        refine (r_getR (dk D153 49 rfl) ow153 q11_30 ob_1 rfl).trans ?_
        refine (r_iln (dk D153 50 rfl) rfl).trans ?_
        refine (r_iln (dk D153 51 rfl) rfl).trans ?_
        exact r_cv (dk D153 52 rfl) ow153 c11_332 mf115 (Nat.le_of_ble_eq_true rfl) rfl rfl (Nat.le_of_ble_eq_true rfl) (Nat.le_of_ble_eq_true rfl) ob_11
      · refine (r_aln (dk D153 54 rfl) rfl).trans ?_
        refine (r_getR (dk D153 55 rfl) ow153 q11_30 ob_1 rfl).trans ?_
        refine (r_iln (dk D153 56 rfl) rfl).trans ?_
        refine (r_iln (dk D153 57 rfl) rfl).trans ?_
        exact r_cv (dk D153 58 rfl) ow153 c11_335 mf116 (Nat.le_of_ble_eq_true rfl) rfl rfl (Nat.le_of_ble_eq_true rfl) (Nat.le_of_ble_eq_true rfl) ob_11
theorem E153_67 {d sl : Nat} {p : Nat → Nat} {I : Nat → Nat → Int32} {J : Nat → Nat → Int64} (l1 : Int32) (l2 : Int32) (l3 : Int32) (l4 : Int32) (s0 : Int32)  : ev d 153 67 [.ref 1, .int l1, .int l2, .int l3, .int l4] [.int s0] (S sl p I J) = some (some (.int s0), (S sl p I J)) := by
  exact r_ret (dk D153 37 rfl) rt153
theorem E153_78 {d sl : Nat} {p : Nat → Nat} {I : Nat → Nat → Int32} {J : Nat → Nat → Int64} (l1 : Int32) (l2 : Int32) (l3 : Int32) (l4 : Int32) (s0 : Int32)  : ev d 153 78 [.ref 1, .int l1, .int l2, .int l3, .int l4] [.int s0] (S sl p I J) = some (some (.int s0), (S sl p I J)) := by
  exact r_ret (dk D153 43 rfl) rt153
theorem E153_94 {d sl : Nat} {p : Nat → Nat} {I : Nat → Nat → Int32} {J : Nat → Nat → Int64} (l1 : Int32) (l2 : Int32) (l3 : Int32) (l4 : Int32) (s0 : Int32)  : ev d 153 94 [.ref 1, .int l1, .int l2, .int l3, .int l4] [.int s0, .ref 1] (S sl p I J) = ev d 153 106 [.ref 1, .int l1, .int l2, .int l3, .int l4] [.int s0, .ref 1] (S sl p I J) := by
  refine (r_goto (L' := [.ref 1, .int l1, .int l2, .int l3, .int l4]) (dk D153 53 rfl) rfl nd153_106 rfl).trans ?_
  exact rfl
theorem E153_106 {d sl : Nat} {p : Nat → Nat} {I : Nat → Nat → Int32} {J : Nat → Nat → Int64} (l1 : Int32) (l2 : Int32) (l3 : Int32) (l4 : Int32) (s0 : Int32)  : ev (d + 1) 153 106 [.ref 1, .int l1, .int l2, .int l3, .int l4] [.int s0, .ref 1] (S sl p I J) = evK (d + 1) 153 109 [.ref 1, .int l1, .int l2, .int l3, .int l4] [] (den d 163 [.ref 1, .int s0] (S sl p I J)) := by
  exact r_cv (dk D153 59 rfl) ow153 c11_92 mf163 (Nat.le_of_ble_eq_true rfl) rfl rfl (Nat.le_of_ble_eq_true rfl) (Nat.le_of_ble_eq_true rfl) ob_1
theorem E153_109 {d sl : Nat} {p : Nat → Nat} {I : Nat → Nat → Int32} {J : Nat → Nat → Int64} (l1 : Int32) (l2 : Int32) (l3 : Int32) (l4 : Int32) (s0 : Int32)  : ev d 153 109 [.ref 1, .int l1, .int l2, .int l3, .int l4] [.int s0] (S sl p I J) = some (some (.int s0), (S sl p I J)) := by
  exact r_ret (dk D153 60 rfl) rt153
set_option maxRecDepth 20000 in
theorem D154 : dOK 154 [(0, .iload_n 3, 1), (1, .iload 4, 2), (3, .iload 5, 2), (5, .invokestatic 77, 3), (8, .ifCond .ne 9, 3), (11, .aload_n 0, 1), (12, .iconst 1, 1), (13, .invokevirtual 81, 3), (16, .ireturn, 1), (17, .aload_n 0, 1), (18, .getfield 30, 3), (21, .iload_n 1, 1), (22, .invokevirtual 193, 3), (25, .ifCond .eq 14, 3), (28, .aload_n 0, 1), (29, .getfield 21, 3), (32, .iload_n 2, 1), (33, .invokevirtual 99, 3), (36, .ifCond .ne 9, 3), (39, .aload_n 0, 1), (40, .iconst 2, 1), (41, .invokevirtual 81, 3), (44, .ireturn, 1), (45, .aload_n 0, 1), (46, .getfield 30, 3), (49, .iload_n 1, 1), (50, .iload_n 2, 1), (51, .invokevirtual 329, 3), (54, .iconst 2, 1), (55, .if_icmp .ge 9, 3), (58, .aload_n 0, 1), (59, .iconst 5, 1), (60, .invokevirtual 81, 3), (63, .ireturn, 1), (64, .aload_n 0, 1), (65, .getfield 30, 3), (68, .iload_n 1, 1), (69, .iload_n 2, 1), (70, .invokevirtual 335, 3), (73, .istore 6, 2), (75, .iload 6, 2), (77, .ifCond .ne 9, 3), (80, .aload_n 0, 1), (81, .iconst 5, 1), (82, .invokevirtual 81, 3), (85, .ireturn, 1), (86, .aload_n 0, 1), (87, .getfield 10, 3), (90, .iload_n 3, 1), (91, .iload 4, 2), (93, .aload_n 0, 1), (94, .getfield 69, 3), (97, .invokevirtual 338, 3), (100, .iload 5, 2), (102, .i2l, 1), (103, .aload_n 0, 1), (104, .getfield 30, 3), (107, .iload_n 1, 1), (108, .invokevirtual 196, 3), (111, .getfield 341, 3), (114, .aload_n 0, 1), (115, .getfield 69, 3), (118, .invokestatic 344, 3), (121, .lmul, 1), (122, .ldc2_w 292, 3), (125, .ldiv, 1), (126, .lstore 7, 2), (128, .aload_n 0, 1), (129, .lload 7, 2), (131, .iload 6, 2), (133, .i2l, 1), (134, .invokestatic 348, 3), (137, .l2i, 1), (138, .invokevirtual 92, 3), (141, .ireturn, 1)] = true := by decide +kernel
theorem E154_0 {d sl : Nat} {p : Nat → Nat} {I : Nat → Nat → Int32} {J : Nat → Nat → Int64} (a1 : Int32) (a2 : Int32) (a3 : Int32) (a4 : Int32) (a5 : Int32)  : den (d + 1) 154 [.ref 1, .int a1, .int a2, .int a3, .int a4, .int a5] (S sl p I J) = evK (d + 1) 154 8 [.ref 1, .int a1, .int a2, .int a3, .int a4, .int a5, .retAddr 0, .retAddr 0, .retAddr 0] [] (den d 169 [.int a3, .int a4, .int a5] (S sl p I J)) := by
  refine (show den (d + 1) 154 [.ref 1, .int a1, .int a2, .int a3, .int a4, .int a5] (S sl p I J) = ev (d + 1) 154 0 [.ref 1, .int a1, .int a2, .int a3, .int a4, .int a5, .retAddr 0, .retAddr 0, .retAddr 0] [] (S sl p I J) from rfl).trans ?_
  refine (r_iln (dk D154 0 rfl) rfl).trans ?_
  refine (r_il (dk D154 1 rfl) rfl).trans ?_
  refine (r_il (dk D154 2 rfl) rfl).trans ?_
  exact r_cs (dk D154 3 rfl) ow154 pn11_77 c11_77 mf169 (Nat.le_of_ble_eq_true rfl) rfl rfl (Nat.le_of_ble_eq_true rfl) (Nat.le_of_ble_eq_true rfl)
theorem E154_8 {d sl : Nat} {p : Nat → Nat} {I : Nat → Nat → Int32} {J : Nat → Nat → Int64} (l1 : Int32) (l2 : Int32) (l3 : Int32) (l4 : Int32) (l5 : Int32) (s0 : Int32)  : ev (d + 1) 154 8 [.ref 1, .int l1, .int l2, .int l3, .int l4, .int l5, .retAddr 0, .retAddr 0, .retAddr 0] [.int s0] (S sl p I J) = (if s0 = 0 then evK (d + 1) 154 16 [.ref 1, .int l1, .int l2, .int l3, .int l4, .int l5, .retAddr 0, .retAddr 0, .retAddr 0] [] (den d 164 [.ref 1, .int 1] (S sl p I J)) else evK (d + 1) 154 25 [.ref 1, .int l1, .int l2, .int l3, .int l4, .int l5, .retAddr 0, .retAddr 0, .retAddr 0] [] (den d 100 [.ref 11, .int l1] (S sl p I J))) := by
  refine (r_ne0 (dk D154 4 rfl) rfl).trans (ite2 ?_ ?_)
  · refine (r_aln (dk D154 5 rfl) rfl).trans ?_
    refine (r_ic (dk D154 6 rfl) ci1).trans ?_
    exact r_cv (dk D154 7 rfl) ow154 c11_81 mf164 (Nat.le_of_ble_eq_true rfl) rfl rfl (Nat.le_of_ble_eq_true rfl) (Nat.le_of_ble_eq_true rfl) ob_1
  · refine (r_aln (dk D154 9 rfl) rfl).trans ?_
    refine (r_getR (dk D154 10 rfl) ow154 q11_30 ob_1 rfl).trans ?_
    refine (r_iln (dk D154 11 rfl) rfl).trans ?_
    exact r_cv (dk D154 12 rfl) ow154 c11_193 mf100 (Nat.le_of_ble_eq_true rfl) rfl rfl (Nat.le_of_ble_eq_true rfl) (Nat.le_of_ble_eq_true rfl) ob_11
theorem E154_16 {d sl : Nat} {p : Nat → Nat} {I : Nat → Nat → Int32} {J : Nat → Nat → Int64} (l1 : Int32) (l2 : Int32) (l3 : Int32) (l4 : Int32) (l5 : Int32) (s0 : Int32)  : ev d 154 16 [.ref 1, .int l1, .int l2, .int l3, .int l4, .int l5, .retAddr 0, .retAddr 0, .retAddr 0] [.int s0] (S sl p I J) = some (some (.int s0), (S sl p I J)) := by
  exact r_ret (dk D154 8 rfl) rt154
theorem E154_25 {d sl : Nat} {p : Nat → Nat} {I : Nat → Nat → Int32} {J : Nat → Nat → Int64} (l1 : Int32) (l2 : Int32) (l3 : Int32) (l4 : Int32) (l5 : Int32) (s0 : Int32)  : ev (d + 1) 154 25 [.ref 1, .int l1, .int l2, .int l3, .int l4, .int l5, .retAddr 0, .retAddr 0, .retAddr 0] [.int s0] (S sl p I J) = (if s0 = 0 then ev (d + 1) 154 39 [.ref 1, .int l1, .int l2, .int l3, .int l4, .int l5, .retAddr 0, .retAddr 0, .retAddr 0] [] (S sl p I J) else evK (d + 1) 154 36 [.ref 1, .int l1, .int l2, .int l3, .int l4, .int l5, .retAddr 0, .retAddr 0, .retAddr 0] [] (den d 59 [.ref 4, .int l2] (S sl p I J))) := by
  refine (r_eq0 (dk D154 13 rfl) rfl).trans (ite2 ?_ ?_)
  · exact rfl
  · refine (r_aln (dk D154 14 rfl) rfl).trans ?_
    refine (r_getR (dk D154 15 rfl) ow154 q11_21 ob_1 rfl).trans ?_
    refine (r_iln (dk D154 16 rfl) rfl).trans ?_
    exact r_cv (dk D154 17 rfl) ow154 c11_99 mf59 (Nat.le_of_ble_eq_true rfl) rfl rfl (Nat.le_of_ble_eq_true rfl) (Nat.le_of_ble_eq_true rfl) ob_4
theorem E154_36 {d sl : Nat} {p : Nat → Nat} {I : Nat → Nat → Int32} {J : Nat → Nat → Int64} (l1 : Int32) (l2 : Int32) (l3 : Int32) (l4 : Int32) (l5 : Int32) (s0 : Int32)  : ev (d + 1) 154 36 [.ref 1, .int l1, .int l2, .int l3, .int l4, .int l5, .retAddr 0, .retAddr 0, .retAddr 0] [.int s0] (S sl p I J) = (if s0 = 0 then ev (d + 1) 154 39 [.ref 1, .int l1, .int l2, .int l3, .int l4, .int l5, .retAddr 0, .retAddr 0, .retAddr 0] [] (S sl p I J) else evK (d + 1) 154 54 [.ref 1, .int l1, .int l2, .int l3, .int l4, .int l5, .retAddr 0, .retAddr 0, .retAddr 0] [] (den d 114 [.ref 11, .int l1, .int l2] (S sl p I J))) := by
  refine (r_ne0 (dk D154 18 rfl) rfl).trans (ite2 ?_ ?_)
  · exact rfl
  · refine (r_aln (dk D154 23 rfl) rfl).trans ?_
    refine (r_getR (dk D154 24 rfl) ow154 q11_30 ob_1 rfl).trans ?_
    refine (r_iln (dk D154 25 rfl) rfl).trans ?_
    refine (r_iln (dk D154 26 rfl) rfl).trans ?_
    exact r_cv (dk D154 27 rfl) ow154 c11_329 mf114 (Nat.le_of_ble_eq_true rfl) rfl rfl (Nat.le_of_ble_eq_true rfl) (Nat.le_of_ble_eq_true rfl) ob_11
theorem E154_39 {d sl : Nat} {p : Nat → Nat} {I : Nat → Nat → Int32} {J : Nat → Nat → Int64} (l1 : Int32) (l2 : Int32) (l3 : Int32) (l4 : Int32) (l5 : Int32)  : ev (d + 1) 154 39 [.ref 1, .int l1, .int l2, .int l3, .int l4, .int l5, .retAddr 0, .retAddr 0, .retAddr 0] [] (S sl p I J) = evK (d + 1) 154 44 [.ref 1, .int l1, .int l2, .int l3, .int l4, .int l5, .retAddr 0, .retAddr 0, .retAddr 0] [] (den d 164 [.ref 1, .int 2] (S sl p I J)) := by
  refine (r_aln (dk D154 19 rfl) rfl).trans ?_
  refine (r_ic (dk D154 20 rfl) ci2).trans ?_
  exact r_cv (dk D154 21 rfl) ow154 c11_81 mf164 (Nat.le_of_ble_eq_true rfl) rfl rfl (Nat.le_of_ble_eq_true rfl) (Nat.le_of_ble_eq_true rfl) ob_1
theorem E154_44 {d sl : Nat} {p : Nat → Nat} {I : Nat → Nat → Int32} {J : Nat → Nat → Int64} (l1 : Int32) (l2 : Int32) (l3 : Int32) (l4 : Int32) (l5 : Int32) (s0 : Int32)  : ev d 154 44 [.ref 1, .int l1, .int l2, .int l3, .int l4, .int l5, .retAddr 0, .retAddr 0, .retAddr 0] [.int s0] (S sl p I J) = some (some (.int s0), (S sl p I J)) := by
  exact r_ret (dk D154 22 rfl) rt154
theorem E154_54 {d sl : Nat} {p : Nat → Nat} {I : Nat → Nat → Int32} {J : Nat → Nat → Int64} (l1 : Int32) (l2 : Int32) (l3 : Int32) (l4 : Int32) (l5 : Int32) (s0 : Int32)  : ev (d + 1) 154 54 [.ref 1, .int l1, .int l2, .int l3, .int l4, .int l5, .retAddr 0, .retAddr 0, .retAddr 0] [.int s0] (S sl p I J) = (if s0 < 2 then evK (d + 1) 154 63 [.ref 1, .int l1, .int l2, .int l3, .int l4, .int l5, .retAddr 0, .retAddr 0, .retAddr 0] [] (den d 164 [.ref 1, .int 5] (S sl p I J)) else evK (d + 1) 154 73 [.ref 1, .int l1, .int l2, .int l3, .int l4, .int l5, .retAddr 0, .retAddr 0, .retAddr 0] [] (den d 116 [.ref 11, .int l1, .int l2] (S sl p I J))) := by
  refine (r_ic (dk D154 28 rfl) ci2).trans ?_
  refine (r_ge (dk D154 29 rfl) rfl).trans (ite2 ?_ ?_)
  · refine (r_aln (dk D154 30 rfl) rfl).trans ?_
    refine (r_ic (dk D154 31 rfl) ci5).trans ?_
    exact r_cv (dk D154 32 rfl) ow154 c11_81 mf164 (Nat.le_of_ble_eq_true rfl) rfl rfl (Nat.le_of_ble_eq_true rfl) (Nat.le_of_ble_eq_true rfl) ob_1
  · refine (r_aln (dk D154 34 rfl) rfl).trans ?_
    refine (r_getR (dk D154 35 rfl) ow154 q11_30 ob_1 rfl).trans ?_
    refine (r_iln (dk D154 36 rfl) rfl).trans ?_
    refine (r_iln (dk D154 37 rfl) rfl).trans ?_
    exact r_cv (dk D154 38 rfl) ow154 c11_335 mf116 (Nat.le_of_ble_eq_true rfl) rfl rfl (Nat.le_of_ble_eq_true rfl) (Nat.le_of_ble_eq_true rfl) ob_11
theorem E154_63 {d sl : Nat} {p : Nat → Nat} {I : Nat → Nat → Int32} {J : Nat → Nat → Int64} (l1 : Int32) (l2 : Int32) (l3 : Int32) (l4 : Int32) (l5 : Int32) (s0 : Int32)  : ev d 154 63 [.ref 1, .int l1, .int l2, .int l3, .int l4, .int l5, .retAddr 0, .retAddr 0, .retAddr 0] [.int s0] (S sl p I J) = some (some (.int s0), (S sl p I J)) := by
  exact r_ret (dk D154 33 rfl) rt154
theorem E154_73 {d sl : Nat} {p : Nat → Nat} {I : Nat → Nat → Int32} {J : Nat → Nat → Int64} (l1 : Int32) (l2 : Int32) (l3 : Int32) (l4 : Int32) (l5 : Int32) (s0 : Int32)  : ev (d + 1) 154 73 [.ref 1, .int l1, .int l2, .int l3, .int l4, .int l5, .retAddr 0, .retAddr 0, .retAddr 0] [.int s0] (S sl p I J) = (if s0 = 0 then evK (d + 1) 154 85 [.ref 1, .int l1, .int l2, .int l3, .int l4, .int l5, .int s0, .retAddr 0, .retAddr 0] [] (den d 164 [.ref 1, .int 5] (S sl p I J)) else evK (d + 1) 154 100 [.ref 1, .int l1, .int l2, .int l3, .int l4, .int l5, .int s0, .retAddr 0, .retAddr 0] [] (den d 29 [.ref 2, .int l3, .int l4, .ref 45] (S sl p I J))) := by
  refine (r_is (L' := [.ref 1, .int l1, .int l2, .int l3, .int l4, .int l5, .int s0, .retAddr 0, .retAddr 0]) (dk D154 39 rfl) (Nat.le_of_ble_eq_true rfl) rfl).trans ?_
  refine (r_il (dk D154 40 rfl) rfl).trans ?_
  refine (r_ne0 (dk D154 41 rfl) rfl).trans (ite2 ?_ ?_)
  · refine (r_aln (dk D154 42 rfl) rfl).trans ?_
    refine (r_ic (dk D154 43 rfl) ci5).trans ?_
    exact r_cv (dk D154 44 rfl) ow154 c11_81 mf164 (Nat.le_of_ble_eq_true rfl) rfl rfl (Nat.le_of_ble_eq_true rfl) (Nat.le_of_ble_eq_true rfl) ob_1
  · refine (r_aln (dk D154 46 rfl) rfl).trans ?_
    refine (r_getR (dk D154 47 rfl) ow154 q11_10 ob_1 rfl).trans ?_
    refine (r_iln (dk D154 48 rfl) rfl).trans ?_
    refine (r_il (dk D154 49 rfl) rfl).trans ?_
    refine (r_aln (dk D154 50 rfl) rfl).trans ?_
    refine (r_getR (dk D154 51 rfl) ow154 q11_69 ob_1 rfl).trans ?_
    exact r_cv (dk D154 52 rfl) ow154 c11_338 mf29 (Nat.le_of_ble_eq_true rfl) rfl rfl (Nat.le_of_ble_eq_true rfl) (Nat.le_of_ble_eq_true rfl) ob_2
theorem E154_85 {d sl : Nat} {p : Nat → Nat} {I : Nat → Nat → Int32} {J : Nat → Nat → Int64} (l1 : Int32) (l2 : Int32) (l3 : Int32) (l4 : Int32) (l5 : Int32) (l6 : Int32) (s0 : Int32)  : ev d 154 85 [.ref 1, .int l1, .int l2, .int l3, .int l4, .int l5, .int l6, .retAddr 0, .retAddr 0] [.int s0] (S sl p I J) = some (some (.int s0), (S sl p I J)) := by
  exact r_ret (dk D154 45 rfl) rt154
theorem E154_100 {d sl : Nat} {p : Nat → Nat} {I : Nat → Nat → Int32} {J : Nat → Nat → Int64} (l1 : Int32) (l2 : Int32) (l3 : Int32) (l4 : Int32) (l5 : Int32) (l6 : Int32)  : ev (d + 1) 154 100 [.ref 1, .int l1, .int l2, .int l3, .int l4, .int l5, .int l6, .retAddr 0, .retAddr 0] [] (S sl p I J) = evK (d + 1) 154 111 [.ref 1, .int l1, .int l2, .int l3, .int l4, .int l5, .int l6, .retAddr 0, .retAddr 0] [.long (Int32.toInt64 l5)] (den d 105 [.ref 11, .int l1] (S sl p I J)) := by
  refine (r_il (dk D154 53 rfl) rfl).trans ?_
  refine (r_i2l (dk D154 54 rfl)).trans ?_
  refine (r_aln (dk D154 55 rfl) rfl).trans ?_
  refine (r_getR (dk D154 56 rfl) ow154 q11_30 ob_1 rfl).trans ?_
  refine (r_iln (dk D154 57 rfl) rfl).trans ?_
  exact r_cv (dk D154 58 rfl) ow154 c11_196 mf105 (Nat.le_of_ble_eq_true rfl) rfl rfl (Nat.le_of_ble_eq_true rfl) (Nat.le_of_ble_eq_true rfl) ob_11
theorem E154_111 {d sl : Nat} {p : Nat → Nat} {I : Nat → Nat → Int32} {J : Nat → Nat → Int64} (l1 : Int32) (l2 : Int32) (l3 : Int32) (l4 : Int32) (l5 : Int32) (l6 : Int32) {s0 : Nat} (s1 : Int64) (hs0 : s0 < 30) : ev (d + 1) 154 111 [.ref 1, .int l1, .int l2, .int l3, .int l4, .int l5, .int l6, .retAddr 0, .retAddr 0] [.ref (400 + s0), .long s1] (S sl p I J) = evK (d + 1) 154 121 [.ref 1, .int l1, .int l2, .int l3, .int l4, .int l5, .int l6, .retAddr 0, .retAddr 0] [.long s1] (den d 172 [.ref (800 + s0), .ref 45] (S sl p I J)) := by
  refine (r_getR (dk D154 59 rfl) ow154 q11_341 (obG hs0) (rfG2 hs0)).trans ?_
  refine (r_aln (dk D154 60 rfl) rfl).trans ?_
  refine (r_getR (dk D154 61 rfl) ow154 q11_69 ob_1 rfl).trans ?_
  exact r_cs (dk D154 62 rfl) ow154 pn11_344 c11_344 mf172 (Nat.le_of_ble_eq_true rfl) rfl rfl (Nat.le_of_ble_eq_true rfl) (Nat.le_of_ble_eq_true rfl)
theorem E154_121 {d sl : Nat} {p : Nat → Nat} {I : Nat → Nat → Int32} {J : Nat → Nat → Int64} (l1 : Int32) (l2 : Int32) (l3 : Int32) (l4 : Int32) (l5 : Int32) (l6 : Int32) (s0 : Int64) (s1 : Int64)  : ev (d + 1) 154 121 [.ref 1, .int l1, .int l2, .int l3, .int l4, .int l5, .int l6, .retAddr 0, .retAddr 0] [.long s0, .long s1] (S sl p I J) = evK (d + 1) 154 137 [.ref 1, .int l1, .int l2, .int l3, .int l4, .int l5, .int l6, .long ((s1 * s0) / 1000), .retAddr 0] [.ref 1] (den d 170 [.long ((s1 * s0) / 1000), .long (Int32.toInt64 l6)] (S sl p I J)) := by
  refine (r_lmul (dk D154 63 rfl)).trans ?_
  refine (r_ld2 (dk D154 64 rfl) ow154 kk11_292).trans ?_
  refine (r_ldiv (dk D154 65 rfl) (by decide)).trans ?_
  refine (r_ls (L' := [.ref 1, .int l1, .int l2, .int l3, .int l4, .int l5, .int l6, .long ((s1 * s0) / 1000), .retAddr 0]) (dk D154 66 rfl) (Nat.le_of_ble_eq_true rfl) rfl).trans ?_
  refine (r_aln (dk D154 67 rfl) rfl).trans ?_
  refine (r_ll (dk D154 68 rfl) rfl).trans ?_
  refine (r_il (dk D154 69 rfl) rfl).trans ?_
  refine (r_i2l (dk D154 70 rfl)).trans ?_
  exact r_cs (dk D154 71 rfl) ow154 pn11_348 c11_348 mf170 (Nat.le_of_ble_eq_true rfl) rfl rfl (Nat.le_of_ble_eq_true rfl) (Nat.le_of_ble_eq_true rfl)
theorem E154_137 {d sl : Nat} {p : Nat → Nat} {I : Nat → Nat → Int32} {J : Nat → Nat → Int64} (l1 : Int32) (l2 : Int32) (l3 : Int32) (l4 : Int32) (l5 : Int32) (l6 : Int32) (l7 : Int64) (s0 : Int64)  : ev (d + 1) 154 137 [.ref 1, .int l1, .int l2, .int l3, .int l4, .int l5, .int l6, .long l7, .retAddr 0] [.long s0, .ref 1] (S sl p I J) = evK (d + 1) 154 141 [.ref 1, .int l1, .int l2, .int l3, .int l4, .int l5, .int l6, .long l7, .retAddr 0] [] (den d 163 [.ref 1, .int (Int64.toInt32 s0)] (S sl p I J)) := by
  refine (r_l2i (dk D154 72 rfl)).trans ?_
  exact r_cv (dk D154 73 rfl) ow154 c11_92 mf163 (Nat.le_of_ble_eq_true rfl) rfl rfl (Nat.le_of_ble_eq_true rfl) (Nat.le_of_ble_eq_true rfl) ob_1
theorem E154_141 {d sl : Nat} {p : Nat → Nat} {I : Nat → Nat → Int32} {J : Nat → Nat → Int64} (l1 : Int32) (l2 : Int32) (l3 : Int32) (l4 : Int32) (l5 : Int32) (l6 : Int32) (l7 : Int64) (s0 : Int32)  : ev d 154 141 [.ref 1, .int l1, .int l2, .int l3, .int l4, .int l5, .int l6, .long l7, .retAddr 0] [.int s0] (S sl p I J) = some (some (.int s0), (S sl p I J)) := by
  exact r_ret (dk D154 74 rfl) rt154
set_option maxRecDepth 20000 in
theorem D155 : dOK 155 [(0, .iload 4, 2), (2, .iconst 1, 1), (3, .ldc_w 352, 3), (6, .invokestatic 121, 3), (9, .ifCond .eq 27, 3), (12, .iload 5, 2), (14, .iconst 1, 1), (15, .ldc_w 352, 3), (18, .invokestatic 121, 3), (21, .ifCond .eq 15, 3), (24, .iload 6, 2), (26, .iconst 1, 1), (27, .ldc_w 352, 3), (30, .invokestatic 121, 3), (33, .ifCond .ne 10, 3), (36, .aload_n 0, 1), (37, .iconst 1, 1), (38, .invokevirtual 81, 3), (41, .i2l, 1), (42, .lreturn, 1), (43, .aload_n 0, 1), (44, .iload_n 1, 1), (45, .iload_n 2, 1), (46, .invokevirtual 211, 3), (49, .ifCond .eq 21, 3), (52, .aload_n 0, 1), (53, .iload_n 1, 1), (54, .iload_n 3, 1), (55, .invokevirtual 211, 3), (58, .ifCond .eq 12, 3), (61, .aload_n 0, 1), (62, .iload_n 2, 1), (63, .iload_n 3, 1), (64, .invokevirtual 211, 3), (67, .ifCond .ne 10, 3), (70, .aload_n 0, 1), (71, .iconst 2, 1), (72, .invokevirtual 81, 3), (75, .i2l, 1), (76, .lreturn, 1), (77, .aload_n 0, 1), (78, .getfield 30, 3), (81, .invokevirtual 144, 3), (84, .aload_n 0, 1), (85, .getfield 69, 3), (88, .aload_n 0, 1), (89, .getfield 30, 3), (92, .getfield 244, 3), (95, .iload_n 2, 1), (96, .aaload, 1), (97, .aload_n 0, 1), (98, .getfield 30, 3), (101, .getfield 244, 3), (104, .iload_n 3, 1), (105, .aaload, 1), (106, .invokevirtual 353, 3), (109, .aload_n 0, 1), (110, .getfield 30, 3), (113, .getfield 244, 3), (116, .iload_n 1, 1), (117, .aaload, 1), (118, .aload_n 0, 1), (119, .getfield 69, 3), (122, .invokevirtual 357, 3), (125, .invokestatic 361, 3), (128, .ldc2_w 292, 3), (131, .ldiv, 1), (132, .lstore 7, 2), (134, .lload 7, 2), (136, .lconst 0, 1), (137, .lcmp, 1), (138, .ifCond .ne 10, 3), (141, .aload_n 0, 1), (142, .iconst 5, 1), (143, .invokevirtual 81, 3), (146, .i2l, 1), (147, .lreturn, 1), (148, .aload_n 0, 1), (149, .iconst 0, 1), (150, .putfield 73, 3), (153, .iload 4, 2), (155, .i2l, 1), (156, .iload 5, 2), (158, .i2l, 1), (159, .lmul, 1), (160, .iload 6, 2), (162, .i2l, 1), (163, .lmul, 1), (164, .ldc2_w 292, 3), (167, .lmul, 1), (168, .lload 7, 2), (170, .invokestatic 348, 3), (173, .lreturn, 1)] = true := by decide +kernel
theorem E155_0 {d sl : Nat} {p : Nat → Nat} {I : Nat → Nat → Int32} {J : Nat → Nat → Int64} (a1 : Int32) (a2 : Int32) (a3 : Int32) (a4 : Int32) (a5 : Int32) (a6 : Int32)  : den (d + 1) 155 [.ref 1, .int a1, .int a2, .int a3, .int a4, .int a5, .int a6] (S sl p I J) = evK (d + 1) 155 9 [.ref 1, .int a1, .int a2, .int a3, .int a4, .int a5, .int a6, .retAddr 0, .retAddr 0] [] (den d 167 [.int a4, .int 1, .int 100000] (S sl p I J)) := by
  refine (show den (d + 1) 155 [.ref 1, .int a1, .int a2, .int a3, .int a4, .int a5, .int a6] (S sl p I J) = ev (d + 1) 155 0 [.ref 1, .int a1, .int a2, .int a3, .int a4, .int a5, .int a6, .retAddr 0, .retAddr 0] [] (S sl p I J) from rfl).trans ?_
  refine (r_il (dk D155 0 rfl) rfl).trans ?_
  refine (r_ic (dk D155 1 rfl) ci1).trans ?_
  refine (r_ldcw (dk D155 2 rfl) ow155 k11_352).trans ?_
  exact r_cs (dk D155 3 rfl) ow155 pn11_121 c11_121 mf167 (Nat.le_of_ble_eq_true rfl) rfl rfl (Nat.le_of_ble_eq_true rfl) (Nat.le_of_ble_eq_true rfl)
theorem E155_9 {d sl : Nat} {p : Nat → Nat} {I : Nat → Nat → Int32} {J : Nat → Nat → Int64} (l1 : Int32) (l2 : Int32) (l3 : Int32) (l4 : Int32) (l5 : Int32) (l6 : Int32) (s0 : Int32)  : ev (d + 1) 155 9 [.ref 1, .int l1, .int l2, .int l3, .int l4, .int l5, .int l6, .retAddr 0, .retAddr 0] [.int s0] (S sl p I J) = (if s0 = 0 then ev (d + 1) 155 36 [.ref 1, .int l1, .int l2, .int l3, .int l4, .int l5, .int l6, .retAddr 0, .retAddr 0] [] (S sl p I J) else evK (d + 1) 155 21 [.ref 1, .int l1, .int l2, .int l3, .int l4, .int l5, .int l6, .retAddr 0, .retAddr 0] [] (den d 167 [.int l5, .int 1, .int 100000] (S sl p I J))) := by
  refine (r_eq0 (dk D155 4 rfl) rfl).trans (ite2 ?_ ?_)
  · exact rfl
  · refine (r_il (dk D155 5 rfl) rfl).trans ?_
    refine (r_ic (dk D155 6 rfl) ci1).trans ?_
    refine (r_ldcw (dk D155 7 rfl) ow155 k11_352).trans ?_
    exact r_cs (dk D155 8 rfl) ow155 pn11_121 c11_121 mf167 (Nat.le_of_ble_eq_true rfl) rfl rfl (Nat.le_of_ble_eq_true rfl) (Nat.le_of_ble_eq_true rfl)
theorem E155_21 {d sl : Nat} {p : Nat → Nat} {I : Nat → Nat → Int32} {J : Nat → Nat → Int64} (l1 : Int32) (l2 : Int32) (l3 : Int32) (l4 : Int32) (l5 : Int32) (l6 : Int32) (s0 : Int32)  : ev (d + 1) 155 21 [.ref 1, .int l1, .int l2, .int l3, .int l4, .int l5, .int l6, .retAddr 0, .retAddr 0] [.int s0] (S sl p I J) = (if s0 = 0 then ev (d + 1) 155 36 [.ref 1, .int l1, .int l2, .int l3, .int l4, .int l5, .int l6, .retAddr 0, .retAddr 0] [] (S sl p I J) else evK (d + 1) 155 33 [.ref 1, .int l1, .int l2, .int l3, .int l4, .int l5, .int l6, .retAddr 0, .retAddr 0] [] (den d 167 [.int l6, .int 1, .int 100000] (S sl p I J))) := by
  refine (r_eq0 (dk D155 9 rfl) rfl).trans (ite2 ?_ ?_)
  · exact rfl
  · refine (r_il (dk D155 10 rfl) rfl).trans ?_
    refine (r_ic (dk D155 11 rfl) ci1).trans ?_
    refine (r_ldcw (dk D155 12 rfl) ow155 k11_352).trans ?_
    exact r_cs (dk D155 13 rfl) ow155 pn11_121 c11_121 mf167 (Nat.le_of_ble_eq_true rfl) rfl rfl (Nat.le_of_ble_eq_true rfl) (Nat.le_of_ble_eq_true rfl)
theorem E155_33 {d sl : Nat} {p : Nat → Nat} {I : Nat → Nat → Int32} {J : Nat → Nat → Int64} (l1 : Int32) (l2 : Int32) (l3 : Int32) (l4 : Int32) (l5 : Int32) (l6 : Int32) (s0 : Int32)  : ev (d + 1) 155 33 [.ref 1, .int l1, .int l2, .int l3, .int l4, .int l5, .int l6, .retAddr 0, .retAddr 0] [.int s0] (S sl p I J) = (if s0 = 0 then ev (d + 1) 155 36 [.ref 1, .int l1, .int l2, .int l3, .int l4, .int l5, .int l6, .retAddr 0, .retAddr 0] [] (S sl p I J) else evK (d + 1) 155 49 [.ref 1, .int l1, .int l2, .int l3, .int l4, .int l5, .int l6, .retAddr 0, .retAddr 0] [] (den d 166 [.ref 1, .int l1, .int l2] (S sl p I J))) := by
  refine (r_ne0 (dk D155 14 rfl) rfl).trans (ite2 ?_ ?_)
  · exact rfl
  · refine (r_aln (dk D155 20 rfl) rfl).trans ?_
    refine (r_iln (dk D155 21 rfl) rfl).trans ?_
    refine (r_iln (dk D155 22 rfl) rfl).trans ?_
    exact r_cv (dk D155 23 rfl) ow155 c11_211 mf166 (Nat.le_of_ble_eq_true rfl) rfl rfl (Nat.le_of_ble_eq_true rfl) (Nat.le_of_ble_eq_true rfl) ob_1
theorem E155_36 {d sl : Nat} {p : Nat → Nat} {I : Nat → Nat → Int32} {J : Nat → Nat → Int64} (l1 : Int32) (l2 : Int32) (l3 : Int32) (l4 : Int32) (l5 : Int32) (l6 : Int32)  : ev (d + 1) 155 36 [.ref 1, .int l1, .int l2, .int l3, .int l4, .int l5, .int l6, .retAddr 0, .retAddr 0] [] (S sl p I J) = evK (d + 1) 155 41 [.ref 1, .int l1, .int l2, .int l3, .int l4, .int l5, .int l6, .retAddr 0, .retAddr 0] [] (den d 164 [.ref 1, .int 1] (S sl p I J)) := by
  refine (r_aln (dk D155 15 rfl) rfl).trans ?_
  refine (r_ic (dk D155 16 rfl) ci1).trans ?_
  exact r_cv (dk D155 17 rfl) ow155 c11_81 mf164 (Nat.le_of_ble_eq_true rfl) rfl rfl (Nat.le_of_ble_eq_true rfl) (Nat.le_of_ble_eq_true rfl) ob_1
theorem E155_41 {d sl : Nat} {p : Nat → Nat} {I : Nat → Nat → Int32} {J : Nat → Nat → Int64} (l1 : Int32) (l2 : Int32) (l3 : Int32) (l4 : Int32) (l5 : Int32) (l6 : Int32) (s0 : Int32)  : ev d 155 41 [.ref 1, .int l1, .int l2, .int l3, .int l4, .int l5, .int l6, .retAddr 0, .retAddr 0] [.int s0] (S sl p I J) = some (some (.long (Int32.toInt64 s0)), (S sl p I J)) := by
  refine (r_i2l (dk D155 18 rfl)).trans ?_
  exact r_rel (dk D155 19 rfl) rt155
theorem E155_49 {d sl : Nat} {p : Nat → Nat} {I : Nat → Nat → Int32} {J : Nat → Nat → Int64} (l1 : Int32) (l2 : Int32) (l3 : Int32) (l4 : Int32) (l5 : Int32) (l6 : Int32) (s0 : Int32)  : ev (d + 1) 155 49 [.ref 1, .int l1, .int l2, .int l3, .int l4, .int l5, .int l6, .retAddr 0, .retAddr 0] [.int s0] (S sl p I J) = (if s0 = 0 then ev (d + 1) 155 70 [.ref 1, .int l1, .int l2, .int l3, .int l4, .int l5, .int l6, .retAddr 0, .retAddr 0] [] (S sl p I J) else evK (d + 1) 155 58 [.ref 1, .int l1, .int l2, .int l3, .int l4, .int l5, .int l6, .retAddr 0, .retAddr 0] [] (den d 166 [.ref 1, .int l1, .int l3] (S sl p I J))) := by
  refine (r_eq0 (dk D155 24 rfl) rfl).trans (ite2 ?_ ?_)
  · exact rfl
  · refine (r_aln (dk D155 25 rfl) rfl).trans ?_
    refine (r_iln (dk D155 26 rfl) rfl).trans ?_
    refine (r_iln (dk D155 27 rfl) rfl).trans ?_
    exact r_cv (dk D155 28 rfl) ow155 c11_211 mf166 (Nat.le_of_ble_eq_true rfl) rfl rfl (Nat.le_of_ble_eq_true rfl) (Nat.le_of_ble_eq_true rfl) ob_1
theorem E155_58 {d sl : Nat} {p : Nat → Nat} {I : Nat → Nat → Int32} {J : Nat → Nat → Int64} (l1 : Int32) (l2 : Int32) (l3 : Int32) (l4 : Int32) (l5 : Int32) (l6 : Int32) (s0 : Int32)  : ev (d + 1) 155 58 [.ref 1, .int l1, .int l2, .int l3, .int l4, .int l5, .int l6, .retAddr 0, .retAddr 0] [.int s0] (S sl p I J) = (if s0 = 0 then ev (d + 1) 155 70 [.ref 1, .int l1, .int l2, .int l3, .int l4, .int l5, .int l6, .retAddr 0, .retAddr 0] [] (S sl p I J) else evK (d + 1) 155 67 [.ref 1, .int l1, .int l2, .int l3, .int l4, .int l5, .int l6, .retAddr 0, .retAddr 0] [] (den d 166 [.ref 1, .int l2, .int l3] (S sl p I J))) := by
  refine (r_eq0 (dk D155 29 rfl) rfl).trans (ite2 ?_ ?_)
  · exact rfl
  · refine (r_aln (dk D155 30 rfl) rfl).trans ?_
    refine (r_iln (dk D155 31 rfl) rfl).trans ?_
    refine (r_iln (dk D155 32 rfl) rfl).trans ?_
    exact r_cv (dk D155 33 rfl) ow155 c11_211 mf166 (Nat.le_of_ble_eq_true rfl) rfl rfl (Nat.le_of_ble_eq_true rfl) (Nat.le_of_ble_eq_true rfl) ob_1
theorem E155_67 {d sl : Nat} {p : Nat → Nat} {I : Nat → Nat → Int32} {J : Nat → Nat → Int64} (l1 : Int32) (l2 : Int32) (l3 : Int32) (l4 : Int32) (l5 : Int32) (l6 : Int32) (s0 : Int32)  : ev (d + 1) 155 67 [.ref 1, .int l1, .int l2, .int l3, .int l4, .int l5, .int l6, .retAddr 0, .retAddr 0] [.int s0] (S sl p I J) = (if s0 = 0 then ev (d + 1) 155 70 [.ref 1, .int l1, .int l2, .int l3, .int l4, .int l5, .int l6, .retAddr 0, .retAddr 0] [] (S sl p I J) else evK (d + 1) 155 84 [.ref 1, .int l1, .int l2, .int l3, .int l4, .int l5, .int l6, .retAddr 0, .retAddr 0] [] (den d 104 [.ref 11] (S sl p I J))) := by
  refine (r_ne0 (dk D155 34 rfl) rfl).trans (ite2 ?_ ?_)
  · exact rfl
  · refine (r_aln (dk D155 40 rfl) rfl).trans ?_
    refine (r_getR (dk D155 41 rfl) ow155 q11_30 ob_1 rfl).trans ?_
    exact r_cv (dk D155 42 rfl) ow155 c11_144 mf104 (Nat.le_of_ble_eq_true rfl) rfl rfl (Nat.le_of_ble_eq_true rfl) (Nat.le_of_ble_eq_true rfl) ob_11
theorem E155_70 {d sl : Nat} {p : Nat → Nat} {I : Nat → Nat → Int32} {J : Nat → Nat → Int64} (l1 : Int32) (l2 : Int32) (l3 : Int32) (l4 : Int32) (l5 : Int32) (l6 : Int32)  : ev (d + 1) 155 70 [.ref 1, .int l1, .int l2, .int l3, .int l4, .int l5, .int l6, .retAddr 0, .retAddr 0] [] (S sl p I J) = evK (d + 1) 155 75 [.ref 1, .int l1, .int l2, .int l3, .int l4, .int l5, .int l6, .retAddr 0, .retAddr 0] [] (den d 164 [.ref 1, .int 2] (S sl p I J)) := by
  refine (r_aln (dk D155 35 rfl) rfl).trans ?_
  refine (r_ic (dk D155 36 rfl) ci2).trans ?_
  exact r_cv (dk D155 37 rfl) ow155 c11_81 mf164 (Nat.le_of_ble_eq_true rfl) rfl rfl (Nat.le_of_ble_eq_true rfl) (Nat.le_of_ble_eq_true rfl) ob_1
theorem E155_75 {d sl : Nat} {p : Nat → Nat} {I : Nat → Nat → Int32} {J : Nat → Nat → Int64} (l1 : Int32) (l2 : Int32) (l3 : Int32) (l4 : Int32) (l5 : Int32) (l6 : Int32) (s0 : Int32)  : ev d 155 75 [.ref 1, .int l1, .int l2, .int l3, .int l4, .int l5, .int l6, .retAddr 0, .retAddr 0] [.int s0] (S sl p I J) = some (some (.long (Int32.toInt64 s0)), (S sl p I J)) := by
  refine (r_i2l (dk D155 38 rfl)).trans ?_
  exact r_rel (dk D155 39 rfl) rt155
theorem E155_84 {d sl : Nat} {p : Nat → Nat} {I : Nat → Nat → Int32} {J : Nat → Nat → Int64} (l1 : Int32) (l2 : Int32) (l3 : Int32) (l4 : Int32) (l5 : Int32) (l6 : Int32)  : ev (d + 1) 155 84 [.ref 1, .int l1, .int l2, .int l3, .int l4, .int l5, .int l6, .retAddr 0, .retAddr 0] [] (S sl p I J) = ck (ixb 30 l2) (ck (ixb 30 l3) (evK (d + 1) 155 109 [.ref 1, .int l1, .int l2, .int l3, .int l4, .int l5, .int l6, .retAddr 0, .retAddr 0] [] (den d 7 [.ref 45, .ref (800 + (Int32.toNatClampNeg l2)), .ref (800 + (Int32.toNatClampNeg l3))] (S sl p I J)))) := by
  refine (r_aln (dk D155 43 rfl) rfl).trans ?_
  refine (r_getR (dk D155 44 rfl) ow155 q11_69 ob_1 rfl).trans ?_
  refine (r_aln (dk D155 45 rfl) rfl).trans ?_
  refine (r_getR (dk D155 46 rfl) ow155 q11_30 ob_1 rfl).trans ?_
  refine (r_getR (dk D155 47 rfl) ow155 q11_244 ob_11 rfl).trans ?_
  refine (r_iln (dk D155 48 rfl) rfl).trans ?_
  refine (r_ald (dk D155 49 rfl) ar_14 (by decide) rfA14).trans (ck3 fun g1 => ?_)
  refine (r_aln (dk D155 50 rfl) rfl).trans ?_
  refine (r_getR (dk D155 51 rfl) ow155 q11_30 ob_1 rfl).trans ?_
  refine (r_getR (dk D155 52 rfl) ow155 q11_244 ob_11 rfl).trans ?_
  refine (r_iln (dk D155 53 rfl) rfl).trans ?_
  refine (r_ald (dk D155 54 rfl) ar_14 (by decide) rfA14).trans (ck3 fun g2 => ?_)
  exact r_cv (dk D155 55 rfl) ow155 c11_353 mf7 (Nat.le_of_ble_eq_true rfl) rfl rfl (Nat.le_of_ble_eq_true rfl) (Nat.le_of_ble_eq_true rfl) ob_45
theorem E155_109 {d sl : Nat} {p : Nat → Nat} {I : Nat → Nat → Int32} {J : Nat → Nat → Int64} (l1 : Int32) (l2 : Int32) (l3 : Int32) (l4 : Int32) (l5 : Int32) (l6 : Int32)  : ev (d + 1) 155 109 [.ref 1, .int l1, .int l2, .int l3, .int l4, .int l5, .int l6, .retAddr 0, .retAddr 0] [] (S sl p I J) = ck (ixb 30 l1) (evK (d + 1) 155 125 [.ref 1, .int l1, .int l2, .int l3, .int l4, .int l5, .int l6, .retAddr 0, .retAddr 0] [] (den d 4 [.ref (800 + (Int32.toNatClampNeg l1)), .ref 45] (S sl p I J))) := by
  refine (r_aln (dk D155 56 rfl) rfl).trans ?_
  refine (r_getR (dk D155 57 rfl) ow155 q11_30 ob_1 rfl).trans ?_
  refine (r_getR (dk D155 58 rfl) ow155 q11_244 ob_11 rfl).trans ?_
  refine (r_iln (dk D155 59 rfl) rfl).trans ?_
  refine (r_ald (dk D155 60 rfl) ar_14 (by decide) rfA14).trans (ck3 fun g1 => ?_)
  refine (r_aln (dk D155 61 rfl) rfl).trans ?_
  refine (r_getR (dk D155 62 rfl) ow155 q11_69 ob_1 rfl).trans ?_
  exact r_cv (dk D155 63 rfl) ow155 c11_357 mf4 (Nat.le_of_ble_eq_true rfl) rfl rfl (Nat.le_of_ble_eq_true rfl) (Nat.le_of_ble_eq_true rfl) (ob800 (ixb_lt g1))
theorem E155_125 {d sl : Nat} {p : Nat → Nat} {I : Nat → Nat → Int32} {J : Nat → Nat → Int64} (l1 : Int32) (l2 : Int32) (l3 : Int32) (l4 : Int32) (l5 : Int32) (l6 : Int32) (s0 : Int64)  : ev (d + 1) 155 125 [.ref 1, .int l1, .int l2, .int l3, .int l4, .int l5, .int l6, .retAddr 0, .retAddr 0] [.long s0] (S sl p I J) = (if ((if 0 < s0 then s0 else -s0) / 1000) = 0 then evK (d + 1) 155 146 [.ref 1, .int l1, .int l2, .int l3, .int l4, .int l5, .int l6, .long ((if 0 < s0 then s0 else -s0) / 1000), .retAddr 0] [] (den d 164 [.ref 1, .int 5] (S sl p I J)) else evK (d + 1) 155 173 [.ref 1, .int l1, .int l2, .int l3, .int l4, .int l5, .int l6, .long ((if 0 < s0 then s0 else -s0) / 1000), .retAddr 0] [] (den d 170 [.long ((((Int32.toInt64 l4) * (Int32.toInt64 l5)) * (Int32.toInt64 l6)) * 1000), .long ((if 0 < s0 then s0 else -s0) / 1000)] (S sl p (up2 I 1 8 0) J))) := by
  refine (r_prm (st' := [.long (if 0 < s0 then s0 else -s0)]) (dk D155 64 rfl) ow155 p11_361 (Nat.le_of_ble_eq_true rfl) rfl).trans ?_
  refine (r_ld2 (dk D155 65 rfl) ow155 kk11_292).trans ?_
  refine (r_ldiv (dk D155 66 rfl) (by decide)).trans ?_
  refine (r_ls (L' := [.ref 1, .int l1, .int l2, .int l3, .int l4, .int l5, .int l6, .long ((if 0 < s0 then s0 else -s0) / 1000), .retAddr 0]) (dk D155 67 rfl) (Nat.le_of_ble_eq_true rfl) rfl).trans ?_
  refine (r_ll (dk D155 68 rfl) rfl).trans ?_
  refine (r_lc (dk D155 69 rfl) cl0).trans ?_
  refine (r_jne (dk D155 70 rfl) (dk D155 71 rfl) rfl).trans (ite2 ?_ ?_)
  · refine (r_aln (dk D155 72 rfl) rfl).trans ?_
    refine (r_ic (dk D155 73 rfl) ci5).trans ?_
    exact r_cv (dk D155 74 rfl) ow155 c11_81 mf164 (Nat.le_of_ble_eq_true rfl) rfl rfl (Nat.le_of_ble_eq_true rfl) (Nat.le_of_ble_eq_true rfl) ob_1
  · refine (r_aln (dk D155 77 rfl) rfl).trans ?_
    refine (r_ic (dk D155 78 rfl) ci0).trans ?_
    refine (r_putI (dk D155 79 rfl) ow155 w11_73 ob_1).trans ?_
    refine (r_il (dk D155 80 rfl) rfl).trans ?_
    refine (r_i2l (dk D155 81 rfl)).trans ?_
    refine (r_il (dk D155 82 rfl) rfl).trans ?_
    refine (r_i2l (dk D155 83 rfl)).trans ?_
    refine (r_lmul (dk D155 84 rfl)).trans ?_
    refine (r_il (dk D155 85 rfl) rfl).trans ?_
    refine (r_i2l (dk D155 86 rfl)).trans ?_
    refine (r_lmul (dk D155 87 rfl)).trans ?_
    refine (r_ld2 (dk D155 88 rfl) ow155 kk11_292).trans ?_
    refine (r_lmul (dk D155 89 rfl)).trans ?_
    refine (r_ll (dk D155 90 rfl) rfl).trans ?_
    exact r_cs (dk D155 91 rfl) ow155 pn11_348 c11_348 mf170 (Nat.le_of_ble_eq_true rfl) rfl rfl (Nat.le_of_ble_eq_true rfl) (Nat.le_of_ble_eq_true rfl)
theorem E155_146 {d sl : Nat} {p : Nat → Nat} {I : Nat → Nat → Int32} {J : Nat → Nat → Int64} (l1 : Int32) (l2 : Int32) (l3 : Int32) (l4 : Int32) (l5 : Int32) (l6 : Int32) (l7 : Int64) (s0 : Int32)  : ev d 155 146 [.ref 1, .int l1, .int l2, .int l3, .int l4, .int l5, .int l6, .long l7, .retAddr 0] [.int s0] (S sl p I J) = some (some (.long (Int32.toInt64 s0)), (S sl p I J)) := by
  refine (r_i2l (dk D155 75 rfl)).trans ?_
  exact r_rel (dk D155 76 rfl) rt155
theorem E155_173 {d sl : Nat} {p : Nat → Nat} {I : Nat → Nat → Int32} {J : Nat → Nat → Int64} (l1 : Int32) (l2 : Int32) (l3 : Int32) (l4 : Int32) (l5 : Int32) (l6 : Int32) (l7 : Int64) (s0 : Int64)  : ev d 155 173 [.ref 1, .int l1, .int l2, .int l3, .int l4, .int l5, .int l6, .long l7, .retAddr 0] [.long s0] (S sl p I J) = some (some (.long s0), (S sl p I J)) := by
  exact r_rel (dk D155 92 rfl) rt155
set_option maxRecDepth 20000 in
theorem D156 : dOK 156 [(0, .iload_n 3, 1), (1, .iconst 0, 1), (2, .iconst 4, 1), (3, .invokestatic 121, 3), (6, .ifCond .ne 9, 3), (9, .aload_n 0, 1), (10, .iconst 1, 1), (11, .invokevirtual 81, 3), (14, .ireturn, 1), (15, .aload_n 0, 1), (16, .iload_n 1, 1), (17, .iload_n 2, 1), (18, .invokevirtual 211, 3), (21, .ifCond .ne 9, 3), (24, .aload_n 0, 1), (25, .iconst 2, 1), (26, .invokevirtual 81, 3), (29, .ireturn, 1), (30, .aload_n 0, 1), (31, .getfield 30, 3), (34, .invokevirtual 144, 3), (37, .aload_n 0, 1), (38, .getfield 55, 3), (41, .iload_n 1, 1), (42, .iload_n 2, 1), (43, .invokestatic 367, 3), (46, .iload_n 1, 1), (47, .iload_n 2, 1), (48, .invokestatic 370, 3), (51, .aload_n 0, 1), (52, .getfield 69, 3), (55, .invokevirtual 373, 3), (58, .ifCond .ne 9, 3), (61, .aload_n 0, 1), (62, .iconst 5, 1), (63, .invokevirtual 81, 3), (66, .ireturn, 1), (67, .iload_n 3, 1), (68, .iconst 2, 1), (69, .if_icmp .lt 19, 3), (72, .aload_n 0, 1), (73, .aload_n 0, 1), (74, .getfield 69, 3), (77, .iload_n 3, 1), (78, .iconst 2, 1), (79, .isub, 1), (80, .invokevirtual 377, 3), (83, .l2i, 1), (84, .invokevirtual 92, 3), (87, .ireturn, 1), (88, .aload_n 0, 1), (89, .getfield 10, 3), (92, .aload_n 0, 1), (93, .getfield 69, 3), (96, .invokevirtual 380, 3), (99, .istore 4, 2), (101, .aload_n 0, 1), (102, .iload_n 3, 1), (103, .ifCond .ne 8, 3), (106, .iload 4, 2), (108, .goto 16, 3), (111, .aload_n 0, 1), (112, .getfield 10, 3), (115, .aload_n 0, 1), (116, .getfield 69, 3), (119, .iload 4, 2), (121, .invokevirtual 383, 3), (124, .invokevirtual 92, 3), (127, .ireturn, 1)] = true := by decide +kernel
theorem E156_0 {d sl : Nat} {p : Nat → Nat} {I : Nat → Nat → Int32} {J : Nat → Nat → Int64} (a1 : Int32) (a2 : Int32) (a3 : Int32)  : den (d + 1) 156 [.ref 1, .int a1, .int a2, .int a3] (S sl p I J) = evK (d + 1) 156 6 [.ref 1, .int a1, .int a2, .int a3, .retAddr 0] [] (den d 167 [.int a3, .int 0, .int 4] (S sl p I J)) := by
  refine (show den (d + 1) 156 [.ref 1, .int a1, .int a2, .int a3] (S sl p I J) = ev (d + 1) 156 0 [.ref 1, .int a1, .int a2, .int a3, .retAddr 0] [] (S sl p I J) from rfl).trans ?_
  refine (r_iln (dk D156 0 rfl) rfl).trans ?_
  refine (r_ic (dk D156 1 rfl) ci0).trans ?_
  refine (r_ic (dk D156 2 rfl) ci4).trans ?_
  exact r_cs (dk D156 3 rfl) ow156 pn11_121 c11_121 mf167 (Nat.le_of_ble_eq_true rfl) rfl rfl (Nat.le_of_ble_eq_true rfl) (Nat.le_of_ble_eq_true rfl)
theorem E156_6 {d sl : Nat} {p : Nat → Nat} {I : Nat → Nat → Int32} {J : Nat → Nat → Int64} (l1 : Int32) (l2 : Int32) (l3 : Int32) (s0 : Int32)  : ev (d + 1) 156 6 [.ref 1, .int l1, .int l2, .int l3, .retAddr 0] [.int s0] (S sl p I J) = (if s0 = 0 then evK (d + 1) 156 14 [.ref 1, .int l1, .int l2, .int l3, .retAddr 0] [] (den d 164 [.ref 1, .int 1] (S sl p I J)) else evK (d + 1) 156 21 [.ref 1, .int l1, .int l2, .int l3, .retAddr 0] [] (den d 166 [.ref 1, .int l1, .int l2] (S sl p I J))) := by
  refine (r_ne0 (dk D156 4 rfl) rfl).trans (ite2 ?_ ?_)
  · refine (r_aln (dk D156 5 rfl) rfl).trans ?_
    refine (r_ic (dk D156 6 rfl) ci1).trans ?_
    exact r_cv (dk D156 7 rfl) ow156 c11_81 mf164 (Nat.le_of_ble_eq_true rfl) rfl rfl (Nat.le_of_ble_eq_true rfl) (Nat.le_of_ble_eq_true rfl) ob_1
  · refine (r_aln (dk D156 9 rfl) rfl).trans ?_
    refine (r_iln (dk D156 10 rfl) rfl).trans ?_
    refine (r_iln (dk D156 11 rfl) rfl).trans ?_
    exact r_cv (dk D156 12 rfl) ow156 c11_211 mf166 (Nat.le_of_ble_eq_true rfl) rfl rfl (Nat.le_of_ble_eq_true rfl) (Nat.le_of_ble_eq_true rfl) ob_1
theorem E156_14 {d sl : Nat} {p : Nat → Nat} {I : Nat → Nat → Int32} {J : Nat → Nat → Int64} (l1 : Int32) (l2 : Int32) (l3 : Int32) (s0 : Int32)  : ev d 156 14 [.ref 1, .int l1, .int l2, .int l3, .retAddr 0] [.int s0] (S sl p I J) = some (some (.int s0), (S sl p I J)) := by
  exact r_ret (dk D156 8 rfl) rt156
theorem E156_21 {d sl : Nat} {p : Nat → Nat} {I : Nat → Nat → Int32} {J : Nat → Nat → Int64} (l1 : Int32) (l2 : Int32) (l3 : Int32) (s0 : Int32)  : ev (d + 1) 156 21 [.ref 1, .int l1, .int l2, .int l3, .retAddr 0] [.int s0] (S sl p I J) = (if s0 = 0 then evK (d + 1) 156 29 [.ref 1, .int l1, .int l2, .int l3, .retAddr 0] [] (den d 164 [.ref 1, .int 2] (S sl p I J)) else evK (d + 1) 156 37 [.ref 1, .int l1, .int l2, .int l3, .retAddr 0] [] (den d 104 [.ref 11] (S sl p I J))) := by
  refine (r_ne0 (dk D156 13 rfl) rfl).trans (ite2 ?_ ?_)
  · refine (r_aln (dk D156 14 rfl) rfl).trans ?_
    refine (r_ic (dk D156 15 rfl) ci2).trans ?_
    exact r_cv (dk D156 16 rfl) ow156 c11_81 mf164 (Nat.le_of_ble_eq_true rfl) rfl rfl (Nat.le_of_ble_eq_true rfl) (Nat.le_of_ble_eq_true rfl) ob_1
  · refine (r_aln (dk D156 18 rfl) rfl).trans ?_
    refine (r_getR (dk D156 19 rfl) ow156 q11_30 ob_1 rfl).trans ?_
    exact r_cv (dk D156 20 rfl) ow156 c11_144 mf104 (Nat.le_of_ble_eq_true rfl) rfl rfl (Nat.le_of_ble_eq_true rfl) (Nat.le_of_ble_eq_true rfl) ob_11
theorem E156_29 {d sl : Nat} {p : Nat → Nat} {I : Nat → Nat → Int32} {J : Nat → Nat → Int64} (l1 : Int32) (l2 : Int32) (l3 : Int32) (s0 : Int32)  : ev d 156 29 [.ref 1, .int l1, .int l2, .int l3, .retAddr 0] [.int s0] (S sl p I J) = some (some (.int s0), (S sl p I J)) := by
  exact r_ret (dk D156 17 rfl) rt156
theorem E156_37 {d sl : Nat} {p : Nat → Nat} {I : Nat → Nat → Int32} {J : Nat → Nat → Int64} (l1 : Int32) (l2 : Int32) (l3 : Int32)  : ev (d + 1) 156 37 [.ref 1, .int l1, .int l2, .int l3, .retAddr 0] [] (S sl p I J) = evK (d + 1) 156 58 [.ref 1, .int l1, .int l2, .int l3, .retAddr 0] [] (den d 51 [.ref 34, .int (if l2 < l1 then l2 else l1), .int (if l1 < l2 then l2 else l1), .ref 45] (S sl p I J)) := by
  refine (r_aln (dk D156 21 rfl) rfl).trans ?_
  refine (r_getR (dk D156 22 rfl) ow156 q11_55 ob_1 rfl).trans ?_
  refine (r_iln (dk D156 23 rfl) rfl).trans ?_
  refine (r_iln (dk D156 24 rfl) rfl).trans ?_
  refine (r_prm (st' := [.int (if l2 < l1 then l2 else l1), .ref 34]) (dk D156 25 rfl) ow156 p11_367 (Nat.le_of_ble_eq_true rfl) rfl).trans ?_
  refine (r_iln (dk D156 26 rfl) rfl).trans ?_
  refine (r_iln (dk D156 27 rfl) rfl).trans ?_
  refine (r_prm (st' := [.int (if l1 < l2 then l2 else l1), .int (if l2 < l1 then l2 else l1), .ref 34]) (dk D156 28 rfl) ow156 p11_370 (Nat.le_of_ble_eq_true rfl) rfl).trans ?_
  refine (r_aln (dk D156 29 rfl) rfl).trans ?_
  refine (r_getR (dk D156 30 rfl) ow156 q11_69 ob_1 rfl).trans ?_
  exact r_cv (dk D156 31 rfl) ow156 c11_373 mf51 (Nat.le_of_ble_eq_true rfl) rfl rfl (Nat.le_of_ble_eq_true rfl) (Nat.le_of_ble_eq_true rfl) ob_34
theorem E156_58 {d sl : Nat} {p : Nat → Nat} {I : Nat → Nat → Int32} {J : Nat → Nat → Int64} (l1 : Int32) (l2 : Int32) (l3 : Int32) (s0 : Int32)  : ev (d + 1) 156 58 [.ref 1, .int l1, .int l2, .int l3, .retAddr 0] [.int s0] (S sl p I J) = (if s0 = 0 then evK (d + 1) 156 66 [.ref 1, .int l1, .int l2, .int l3, .retAddr 0] [] (den d 164 [.ref 1, .int 5] (S sl p I J)) else (if l3 < 2 then evK (d + 1) 156 99 [.ref 1, .int l1, .int l2, .int l3, .retAddr 0] [] (den d 33 [.ref 2, .ref 45] (S sl p I J)) else evK (d + 1) 156 83 [.ref 1, .int l1, .int l2, .int l3, .retAddr 0] [.ref 1] (den d 3 [.ref 45, .int (l3 - 2)] (S sl p I J)))) := by
  refine (r_ne0 (dk D156 32 rfl) rfl).trans (ite2 ?_ ?_)
  · refine (r_aln (dk D156 33 rfl) rfl).trans ?_
    refine (r_ic (dk D156 34 rfl) ci5).trans ?_
    exact r_cv (dk D156 35 rfl) ow156 c11_81 mf164 (Nat.le_of_ble_eq_true rfl) rfl rfl (Nat.le_of_ble_eq_true rfl) (Nat.le_of_ble_eq_true rfl) ob_1
  · refine (r_iln (dk D156 37 rfl) rfl).trans ?_
    refine (r_ic (dk D156 38 rfl) ci2).trans ?_
    refine (r_lt (dk D156 39 rfl) rfl).trans (ite2 ?_ ?_)
    · refine (r_aln (dk D156 50 rfl) rfl).trans ?_
      refine (r_getR (dk D156 51 rfl) ow156 q11_10 ob_1 rfl).trans ?_
      refine (r_aln (dk D156 52 rfl) rfl).trans ?_
      refine (r_getR (dk D156 53 rfl) ow156 q11_69 ob_1 rfl).trans ?_
      exact r_cv (dk D156 54 rfl) ow156 c11_380 mf33 (Nat.le_of_ble_eq_true rfl) rfl rfl (Nat.le_of_ble_eq_true rfl) (Nat.le_of_ble_eq_true rfl) ob_2
    · refine (r_aln (dk D156 40 rfl) rfl).trans ?_
      refine (r_aln (dk D156 41 rfl) rfl).trans ?_
      refine (r_getR (dk D156 42 rfl) ow156 q11_69 ob_1 rfl).trans ?_
      refine (r_iln (dk D156 43 rfl) rfl).trans ?_
      refine (r_ic (dk D156 44 rfl) ci2).trans ?_
      refine (r_isub (dk D156 45 rfl)).trans ?_
      exact r_cv (dk D156 46 rfl) ow156 c11_377 mf3 (Nat.le_of_ble_eq_true rfl) rfl rfl (Nat.le_of_ble_eq_true rfl) (Nat.le_of_ble_eq_true rfl) ob_45
theorem E156_66 {d sl : Nat} {p : Nat → Nat} {I : Nat → Nat → Int32} {J : Nat → Nat → Int64} (l1 : Int32) (l2 : Int32) (l3 : Int32) (s0 : Int32)  : ev d 156 66 [.ref 1, .int l1, .int l2, .int l3, .retAddr 0] [.int s0] (S sl p I J) = some (some (.int s0), (S sl p I J)) := by
  exact r_ret (dk D156 36 rfl) rt156
theorem E156_83 {d sl : Nat} {p : Nat → Nat} {I : Nat → Nat → Int32} {J : Nat → Nat → Int64} (l1 : Int32) (l2 : Int32) (l3 : Int32) (s0 : Int64)  : ev (d + 1) 156 83 [.ref 1, .int l1, .int l2, .int l3, .retAddr 0] [.long s0, .ref 1] (S sl p I J) = evK (d + 1) 156 87 [.ref 1, .int l1, .int l2, .int l3, .retAddr 0] [] (den d 163 [.ref 1, .int (Int64.toInt32 s0)] (S sl p I J)) := by
  refine (r_l2i (dk D156 47 rfl)).trans ?_
  exact r_cv (dk D156 48 rfl) ow156 c11_92 mf163 (Nat.le_of_ble_eq_true rfl) rfl rfl (Nat.le_of_ble_eq_true rfl) (Nat.le_of_ble_eq_true rfl) ob_1
theorem E156_87 {d sl : Nat} {p : Nat → Nat} {I : Nat → Nat → Int32} {J : Nat → Nat → Int64} (l1 : Int32) (l2 : Int32) (l3 : Int32) (s0 : Int32)  : ev d 156 87 [.ref 1, .int l1, .int l2, .int l3, .retAddr 0] [.int s0] (S sl p I J) = some (some (.int s0), (S sl p I J)) := by
  exact r_ret (dk D156 49 rfl) rt156
theorem E156_99 {d sl : Nat} {p : Nat → Nat} {I : Nat → Nat → Int32} {J : Nat → Nat → Int64} (l1 : Int32) (l2 : Int32) (l3 : Int32) (s0 : Int32)  : ev (d + 1) 156 99 [.ref 1, .int l1, .int l2, .int l3, .retAddr 0] [.int s0] (S sl p I J) = (if l3 = 0 then ev (d + 1) 156 124 [.ref 1, .int l1, .int l2, .int l3, .int s0] [.int s0, .ref 1] (S sl p I J) else evK (d + 1) 156 124 [.ref 1, .int l1, .int l2, .int l3, .int s0] [.ref 1] (den d 36 [.ref 2, .ref 45, .int s0] (S sl p I J))) := by
  refine (r_is (L' := [.ref 1, .int l1, .int l2, .int l3, .int s0]) (dk D156 55 rfl) (Nat.le_of_ble_eq_true rfl) rfl).trans ?_
  refine (r_aln (dk D156 56 rfl) rfl).trans ?_
  refine (r_iln (dk D156 57 rfl) rfl).trans ?_
  refine (r_ne0 (dk D156 58 rfl) rfl).trans (ite2 ?_ ?_)
  · refine (r_il (dk D156 59 rfl) rfl).trans ?_
    refine (r_goto (L' := [.ref 1, .int l1, .int l2, .int l3, .int s0]) (dk D156 60 rfl) rfl nd156_124 rfl).trans ?_
    exact rfl
  · refine (r_aln (dk D156 61 rfl) rfl).trans ?_
    refine (r_getR (dk D156 62 rfl) ow156 q11_10 ob_1 rfl).trans ?_
    refine (r_aln (dk D156 63 rfl) rfl).trans ?_
    refine (r_getR (dk D156 64 rfl) ow156 q11_69 ob_1 rfl).trans ?_
    refine (r_il (dk D156 65 rfl) rfl).trans ?_
    exact r_cv (dk D156 66 rfl) ow156 c11_383 mf36 (Nat.le_of_ble_eq_true rfl) rfl rfl (Nat.le_of_ble_eq_true rfl) (Nat.le_of_ble_eq_true rfl) ob_2
theorem E156_124 {d sl : Nat} {p : Nat → Nat} {I : Nat → Nat → Int32} {J : Nat → Nat → Int64} (l1 : Int32) (l2 : Int32) (l3 : Int32) (l4 : Int32) (s0 : Int32)  : ev (d + 1) 156 124 [.ref 1, .int l1, .int l2, .int l3, .int l4] [.int s0, .ref 1] (S sl p I J) = evK (d + 1) 156 127 [.ref 1, .int l1, .int l2, .int l3, .int l4] [] (den d 163 [.ref 1, .int s0] (S sl p I J)) := by
  exact r_cv (dk D156 67 rfl) ow156 c11_92 mf163 (Nat.le_of_ble_eq_true rfl) rfl rfl (Nat.le_of_ble_eq_true rfl) (Nat.le_of_ble_eq_true rfl) ob_1
theorem E156_127 {d sl : Nat} {p : Nat → Nat} {I : Nat → Nat → Int32} {J : Nat → Nat → Int64} (l1 : Int32) (l2 : Int32) (l3 : Int32) (l4 : Int32) (s0 : Int32)  : ev d 156 127 [.ref 1, .int l1, .int l2, .int l3, .int l4] [.int s0] (S sl p I J) = some (some (.int s0), (S sl p I J)) := by
  exact r_ret (dk D156 68 rfl) rt156
set_option maxRecDepth 20000 in
theorem D157 : dOK 157 [(0, .aload_n 0, 1), (1, .getfield 30, 3), (4, .invokevirtual 144, 3), (7, .aload_n 0, 1), (8, .getfield 55, 3), (11, .invokevirtual 386, 3), (14, .iload_n 1, 1), (15, .tableswitch 119 0 3 #[29, 55, 81, 107], 29), (44, .aload_n 0, 1), (45, .aload_n 0, 1), (46, .getfield 55, 3), (49, .aload_n 0, 1), (50, .getfield 55, 3), (53, .getfield 389, 3), (56, .aload_n 0, 1), (57, .getfield 55, 3), (60, .getfield 392, 3), (63, .invokevirtual 147, 3), (66, .invokevirtual 92, 3), (69, .ireturn, 1), (70, .aload_n 0, 1), (71, .aload_n 0, 1), (72, .getfield 55, 3), (75, .aload_n 0, 1), (76, .getfield 55, 3), (79, .getfield 389, 3), (82, .aload_n 0, 1), (83, .getfield 55, 3), (86, .getfield 392, 3), (89, .invokevirtual 395, 3), (92, .invokevirtual 92, 3), (95, .ireturn, 1), (96, .aload_n 0, 1), (97, .aload_n 0, 1), (98, .getfield 55, 3), (101, .aload_n 0, 1), (102, .getfield 55, 3), (105, .getfield 389, 3), (108, .aload_n 0, 1), (109, .getfield 55, 3), (112, .getfield 392, 3), (115, .invokevirtual 398, 3), (118, .invokevirtual 92, 3), (121, .ireturn, 1), (122, .aload_n 0, 1), (123, .aload_n 0, 1), (124, .getfield 55, 3), (127, .invokevirtual 401, 3), (130, .invokevirtual 208, 3), (133, .ireturn, 1), (134, .aload_n 0, 1), (135, .iconst 1, 1), (136, .invokevirtual 81, 3), (139, .ireturn, 1)] = true := by decide +kernel
theorem E157_0 {d sl : Nat} {p : Nat → Nat} {I : Nat → Nat → Int32} {J : Nat → Nat → Int64} (a1 : Int32)  : den (d + 1) 157 [.ref 1, .int a1] (S sl p I J) = evK (d + 1) 157 7 [.ref 1, .int a1] [] (den d 104 [.ref 11] (S sl p I J)) := by
  refine (show den (d + 1) 157 [.ref 1, .int a1] (S sl p I J) = ev (d + 1) 157 0 [.ref 1, .int a1] [] (S sl p I J) from rfl).trans ?_
  refine (r_aln (dk D157 0 rfl) rfl).trans ?_
  refine (r_getR (dk D157 1 rfl) ow157 q11_30 ob_1 rfl).trans ?_
  exact r_cv (dk D157 2 rfl) ow157 c11_144 mf104 (Nat.le_of_ble_eq_true rfl) rfl rfl (Nat.le_of_ble_eq_true rfl) (Nat.le_of_ble_eq_true rfl) ob_11
theorem E157_7 {d sl : Nat} {p : Nat → Nat} {I : Nat → Nat → Int32} {J : Nat → Nat → Int64} (l1 : Int32)  : ev (d + 1) 157 7 [.ref 1, .int l1] [] (S sl p I J) = evK (d + 1) 157 14 [.ref 1, .int l1] [] (den d 52 [.ref 34] (S sl p I J)) := by
  refine (r_aln (dk D157 3 rfl) rfl).trans ?_
  refine (r_getR (dk D157 4 rfl) ow157 q11_55 ob_1 rfl).trans ?_
  exact r_cv (dk D157 5 rfl) ow157 c11_386 mf52 (Nat.le_of_ble_eq_true rfl) rfl rfl (Nat.le_of_ble_eq_true rfl) (Nat.le_of_ble_eq_true rfl) ob_34
theorem E157_14 {d sl : Nat} {p : Nat → Nat} {I : Nat → Nat → Int32} {J : Nat → Nat → Int64} (l1 : Int32)  : ev (d + 1) 157 14 [.ref 1, .int l1] [] (S sl p I J) = (if l1 = 0 then evK (d + 1) 157 66 [.ref 1, .int l1] [.ref 1] (den d 49 [.ref 34, .int (I 34 5), .int (I 34 6)] (S sl p I J)) else (if l1 = 1 then evK (d + 1) 157 92 [.ref 1, .int l1] [.ref 1] (den d 50 [.ref 34, .int (I 34 5), .int (I 34 6)] (S sl p I J)) else (if l1 = 2 then evK (d + 1) 157 118 [.ref 1, .int l1] [.ref 1] (den d 54 [.ref 34, .int (I 34 5), .int (I 34 6)] (S sl p I J)) else (if l1 = 3 then evK (d + 1) 157 130 [.ref 1, .int l1] [.ref 1] (den d 55 [.ref 34] (S sl p I J)) else evK (d + 1) 157 139 [.ref 1, .int l1] [] (den d 164 [.ref 1, .int 1] (S sl p I J)))))) := by
  refine (r_iln (dk D157 6 rfl) rfl).trans ?_
  by_cases hs0 : l1 = 0
  · rw [if_pos hs0]
    refine (r_sw (t := 44) (dk D157 7 rfl) (by rw [hs0]; rfl)).trans ?_
    refine (r_aln (dk D157 8 rfl) rfl).trans ?_
    refine (r_aln (dk D157 9 rfl) rfl).trans ?_
    refine (r_getR (dk D157 10 rfl) ow157 q11_55 ob_1 rfl).trans ?_
    refine (r_aln (dk D157 11 rfl) rfl).trans ?_
    refine (r_getR (dk D157 12 rfl) ow157 q11_55 ob_1 rfl).trans ?_
    refine (r_getI (dk D157 13 rfl) ow157 q11_389 ob_34).trans ?_
    refine (r_aln (dk D157 14 rfl) rfl).trans ?_
    refine (r_getR (dk D157 15 rfl) ow157 q11_55 ob_1 rfl).trans ?_
    refine (r_getI (dk D157 16 rfl) ow157 q11_392 ob_34).trans ?_
    exact r_cv (dk D157 17 rfl) ow157 c11_147 mf49 (Nat.le_of_ble_eq_true rfl) rfl rfl (Nat.le_of_ble_eq_true rfl) (Nat.le_of_ble_eq_true rfl) ob_34
  rw [if_neg hs0]
  by_cases hs1 : l1 = 1
  · rw [if_pos hs1]
    refine (r_sw (t := 70) (dk D157 7 rfl) (by rw [hs1]; rfl)).trans ?_
    refine (r_aln (dk D157 20 rfl) rfl).trans ?_
    refine (r_aln (dk D157 21 rfl) rfl).trans ?_
    refine (r_getR (dk D157 22 rfl) ow157 q11_55 ob_1 rfl).trans ?_
    refine (r_aln (dk D157 23 rfl) rfl).trans ?_
    refine (r_getR (dk D157 24 rfl) ow157 q11_55 ob_1 rfl).trans ?_
    refine (r_getI (dk D157 25 rfl) ow157 q11_389 ob_34).trans ?_
    refine (r_aln (dk D157 26 rfl) rfl).trans ?_
    refine (r_getR (dk D157 27 rfl) ow157 q11_55 ob_1 rfl).trans ?_
    refine (r_getI (dk D157 28 rfl) ow157 q11_392 ob_34).trans ?_
    exact r_cv (dk D157 29 rfl) ow157 c11_395 mf50 (Nat.le_of_ble_eq_true rfl) rfl rfl (Nat.le_of_ble_eq_true rfl) (Nat.le_of_ble_eq_true rfl) ob_34
  rw [if_neg hs1]
  by_cases hs2 : l1 = 2
  · rw [if_pos hs2]
    refine (r_sw (t := 96) (dk D157 7 rfl) (by rw [hs2]; rfl)).trans ?_
    refine (r_aln (dk D157 32 rfl) rfl).trans ?_
    refine (r_aln (dk D157 33 rfl) rfl).trans ?_
    refine (r_getR (dk D157 34 rfl) ow157 q11_55 ob_1 rfl).trans ?_
    refine (r_aln (dk D157 35 rfl) rfl).trans ?_
    refine (r_getR (dk D157 36 rfl) ow157 q11_55 ob_1 rfl).trans ?_
    refine (r_getI (dk D157 37 rfl) ow157 q11_389 ob_34).trans ?_
    refine (r_aln (dk D157 38 rfl) rfl).trans ?_
    refine (r_getR (dk D157 39 rfl) ow157 q11_55 ob_1 rfl).trans ?_
    refine (r_getI (dk D157 40 rfl) ow157 q11_392 ob_34).trans ?_
    exact r_cv (dk D157 41 rfl) ow157 c11_398 mf54 (Nat.le_of_ble_eq_true rfl) rfl rfl (Nat.le_of_ble_eq_true rfl) (Nat.le_of_ble_eq_true rfl) ob_34
  rw [if_neg hs2]
  by_cases hs3 : l1 = 3
  · rw [if_pos hs3]
    refine (r_sw (t := 122) (dk D157 7 rfl) (by rw [hs3]; rfl)).trans ?_
    refine (r_aln (dk D157 44 rfl) rfl).trans ?_
    refine (r_aln (dk D157 45 rfl) rfl).trans ?_
    refine (r_getR (dk D157 46 rfl) ow157 q11_55 ob_1 rfl).trans ?_
    exact r_cv (dk D157 47 rfl) ow157 c11_401 mf55 (Nat.le_of_ble_eq_true rfl) rfl rfl (Nat.le_of_ble_eq_true rfl) (Nat.le_of_ble_eq_true rfl) ob_34
  rw [if_neg hs3]
  refine (r_swd (t := 134) (dk D157 7 rfl) (swd_4 hs0 hs1 hs2 hs3) rfl).trans ?_
  refine (r_aln (dk D157 50 rfl) rfl).trans ?_
  refine (r_ic (dk D157 51 rfl) ci1).trans ?_
  exact r_cv (dk D157 52 rfl) ow157 c11_81 mf164 (Nat.le_of_ble_eq_true rfl) rfl rfl (Nat.le_of_ble_eq_true rfl) (Nat.le_of_ble_eq_true rfl) ob_1
theorem E157_66 {d sl : Nat} {p : Nat → Nat} {I : Nat → Nat → Int32} {J : Nat → Nat → Int64} (l1 : Int32) (s0 : Int32)  : ev (d + 1) 157 66 [.ref 1, .int l1] [.int s0, .ref 1] (S sl p I J) = evK (d + 1) 157 69 [.ref 1, .int l1] [] (den d 163 [.ref 1, .int s0] (S sl p I J)) := by
  exact r_cv (dk D157 18 rfl) ow157 c11_92 mf163 (Nat.le_of_ble_eq_true rfl) rfl rfl (Nat.le_of_ble_eq_true rfl) (Nat.le_of_ble_eq_true rfl) ob_1
theorem E157_69 {d sl : Nat} {p : Nat → Nat} {I : Nat → Nat → Int32} {J : Nat → Nat → Int64} (l1 : Int32) (s0 : Int32)  : ev d 157 69 [.ref 1, .int l1] [.int s0] (S sl p I J) = some (some (.int s0), (S sl p I J)) := by
  exact r_ret (dk D157 19 rfl) rt157
theorem E157_92 {d sl : Nat} {p : Nat → Nat} {I : Nat → Nat → Int32} {J : Nat → Nat → Int64} (l1 : Int32) (s0 : Int32)  : ev (d + 1) 157 92 [.ref 1, .int l1] [.int s0, .ref 1] (S sl p I J) = evK (d + 1) 157 95 [.ref 1, .int l1] [] (den d 163 [.ref 1, .int s0] (S sl p I J)) := by
  exact r_cv (dk D157 30 rfl) ow157 c11_92 mf163 (Nat.le_of_ble_eq_true rfl) rfl rfl (Nat.le_of_ble_eq_true rfl) (Nat.le_of_ble_eq_true rfl) ob_1
theorem E157_95 {d sl : Nat} {p : Nat → Nat} {I : Nat → Nat → Int32} {J : Nat → Nat → Int64} (l1 : Int32) (s0 : Int32)  : ev d 157 95 [.ref 1, .int l1] [.int s0] (S sl p I J) = some (some (.int s0), (S sl p I J)) := by
  exact r_ret (dk D157 31 rfl) rt157
theorem E157_118 {d sl : Nat} {p : Nat → Nat} {I : Nat → Nat → Int32} {J : Nat → Nat → Int64} (l1 : Int32) (s0 : Int32)  : ev (d + 1) 157 118 [.ref 1, .int l1] [.int s0, .ref 1] (S sl p I J) = evK (d + 1) 157 121 [.ref 1, .int l1] [] (den d 163 [.ref 1, .int s0] (S sl p I J)) := by
  exact r_cv (dk D157 42 rfl) ow157 c11_92 mf163 (Nat.le_of_ble_eq_true rfl) rfl rfl (Nat.le_of_ble_eq_true rfl) (Nat.le_of_ble_eq_true rfl) ob_1
theorem E157_121 {d sl : Nat} {p : Nat → Nat} {I : Nat → Nat → Int32} {J : Nat → Nat → Int64} (l1 : Int32) (s0 : Int32)  : ev d 157 121 [.ref 1, .int l1] [.int s0] (S sl p I J) = some (some (.int s0), (S sl p I J)) := by
  exact r_ret (dk D157 43 rfl) rt157
theorem E157_130 {d sl : Nat} {p : Nat → Nat} {I : Nat → Nat → Int32} {J : Nat → Nat → Int64} (l1 : Int32) (s0 : Int32)  : ev (d + 1) 157 130 [.ref 1, .int l1] [.int s0, .ref 1] (S sl p I J) = evK (d + 1) 157 133 [.ref 1, .int l1] [] (den d 165 [.ref 1, .int s0] (S sl p I J)) := by
  exact r_cv (dk D157 48 rfl) ow157 c11_208 mf165 (Nat.le_of_ble_eq_true rfl) rfl rfl (Nat.le_of_ble_eq_true rfl) (Nat.le_of_ble_eq_true rfl) ob_1
theorem E157_133 {d sl : Nat} {p : Nat → Nat} {I : Nat → Nat → Int32} {J : Nat → Nat → Int64} (l1 : Int32) (s0 : Int32)  : ev d 157 133 [.ref 1, .int l1] [.int s0] (S sl p I J) = some (some (.int s0), (S sl p I J)) := by
  exact r_ret (dk D157 49 rfl) rt157
theorem E157_139 {d sl : Nat} {p : Nat → Nat} {I : Nat → Nat → Int32} {J : Nat → Nat → Int64} (l1 : Int32) (s0 : Int32)  : ev d 157 139 [.ref 1, .int l1] [.int s0] (S sl p I J) = some (some (.int s0), (S sl p I J)) := by
  exact r_ret (dk D157 53 rfl) rt157
set_option maxRecDepth 20000 in
theorem D158 : dOK 158 [(0, .aload_n 0, 1), (1, .getfield 30, 3), (4, .iload_n 1, 1), (5, .invokevirtual 193, 3), (8, .ifCond .ne 9, 3), (11, .aload_n 0, 1), (12, .iconst 2, 1), (13, .invokevirtual 81, 3), (16, .ireturn, 1), (17, .aload_n 0, 1), (18, .getfield 30, 3), (21, .iload_n 1, 1), (22, .invokevirtual 196, 3), (25, .getfield 404, 3), (28, .istore_n 2, 1), (29, .iload_n 2, 1), (30, .ifCond .ne 9, 3), (33, .aload_n 0, 1), (34, .iconst 5, 1), (35, .invokevirtual 81, 3), (38, .ireturn, 1), (39, .aload_n 0, 1), (40, .aload_n 0, 1), (41, .getfield 55, 3), (44, .iload_n 2, 1), (45, .invokevirtual 407, 3), (48, .invokevirtual 92, 3), (51, .ireturn, 1)] = true := by decide +kernel
theorem E158_0 {d sl : Nat} {p : Nat → Nat} {I : Nat → Nat → Int32} {J : Nat → Nat → Int64} (a1 : Int32)  : den (d + 1) 158 [.ref 1, .int a1] (S sl p I J) = evK (d + 1) 158 8 [.ref 1, .int a1, .retAddr 0] [] (den d 100 [.ref 11, .int a1] (S sl p I J)) := by
  refine (show den (d + 1) 158 [.ref 1, .int a1] (S sl p I J) = ev (d + 1) 158 0 [.ref 1, .int a1, .retAddr 0] [] (S sl p I J) from rfl).trans ?_
  refine (r_aln (dk D158 0 rfl) rfl).trans ?_
  refine (r_getR (dk D158 1 rfl) ow158 q11_30 ob_1 rfl).trans ?_
  refine (r_iln (dk D158 2 rfl) rfl).trans ?_
  exact r_cv (dk D158 3 rfl) ow158 c11_193 mf100 (Nat.le_of_ble_eq_true rfl) rfl rfl (Nat.le_of_ble_eq_true rfl) (Nat.le_of_ble_eq_true rfl) ob_11
theorem E158_8 {d sl : Nat} {p : Nat → Nat} {I : Nat → Nat → Int32} {J : Nat → Nat → Int64} (l1 : Int32) (s0 : Int32)  : ev (d + 1) 158 8 [.ref 1, .int l1, .retAddr 0] [.int s0] (S sl p I J) = (if s0 = 0 then evK (d + 1) 158 16 [.ref 1, .int l1, .retAddr 0] [] (den d 164 [.ref 1, .int 2] (S sl p I J)) else evK (d + 1) 158 25 [.ref 1, .int l1, .retAddr 0] [] (den d 105 [.ref 11, .int l1] (S sl p I J))) := by
  refine (r_ne0 (dk D158 4 rfl) rfl).trans (ite2 ?_ ?_)
  · refine (r_aln (dk D158 5 rfl) rfl).trans ?_
    refine (r_ic (dk D158 6 rfl) ci2).trans ?_
    exact r_cv (dk D158 7 rfl) ow158 c11_81 mf164 (Nat.le_of_ble_eq_true rfl) rfl rfl (Nat.le_of_ble_eq_true rfl) (Nat.le_of_ble_eq_true rfl) ob_1
  · refine (r_aln (dk D158 9 rfl) rfl).trans ?_
    refine (r_getR (dk D158 10 rfl) ow158 q11_30 ob_1 rfl).trans ?_
    refine (r_iln (dk D158 11 rfl) rfl).trans ?_
    exact r_cv (dk D158 12 rfl) ow158 c11_196 mf105 (Nat.le_of_ble_eq_true rfl) rfl rfl (Nat.le_of_ble_eq_true rfl) (Nat.le_of_ble_eq_true rfl) ob_11
theorem E158_16 {d sl : Nat} {p : Nat → Nat} {I : Nat → Nat → Int32} {J : Nat → Nat → Int64} (l1 : Int32) (s0 : Int32)  : ev d 158 16 [.ref 1, .int l1, .retAddr 0] [.int s0] (S sl p I J) = some (some (.int s0), (S sl p I J)) := by
  exact r_ret (dk D158 8 rfl) rt158
theorem E158_25 {d sl : Nat} {p : Nat → Nat} {I : Nat → Nat → Int32} {J : Nat → Nat → Int64} (l1 : Int32) {s0 : Nat} (hs0 : s0 < 30) : ev (d + 1) 158 25 [.ref 1, .int l1, .retAddr 0] [.ref (400 + s0)] (S sl p I J) = (if (I (400 + s0) 8) = 0 then evK (d + 1) 158 38 [.ref 1, .int l1, .int (I (400 + s0) 8)] [] (den d 164 [.ref 1, .int 5] (S sl p I J)) else evK (d + 1) 158 48 [.ref 1, .int l1, .int (I (400 + s0) 8)] [.ref 1] (den d 57 [.ref 34, .int (I (400 + s0) 8)] (S sl p I J))) := by
  refine (r_getI (dk D158 13 rfl) ow158 q11_404 (obG hs0)).trans ?_
  refine (r_isn (L' := [.ref 1, .int l1, .int (I (400 + s0) 8)]) (dk D158 14 rfl) (Nat.le_of_ble_eq_true rfl) rfl).trans ?_
  refine (r_iln (dk D158 15 rfl) rfl).trans ?_
  refine (r_ne0 (dk D158 16 rfl) rfl).trans (ite2 ?_ ?_)
  · refine (r_aln (dk D158 17 rfl) rfl).trans ?_
    refine (r_ic (dk D158 18 rfl) ci5).trans ?_
    exact r_cv (dk D158 19 rfl) ow158 c11_81 mf164 (Nat.le_of_ble_eq_true rfl) rfl rfl (Nat.le_of_ble_eq_true rfl) (Nat.le_of_ble_eq_true rfl) ob_1
  · refine (r_aln (dk D158 21 rfl) rfl).trans ?_
    refine (r_aln (dk D158 22 rfl) rfl).trans ?_
    refine (r_getR (dk D158 23 rfl) ow158 q11_55 ob_1 rfl).trans ?_
    refine (r_iln (dk D158 24 rfl) rfl).trans ?_
    exact r_cv (dk D158 25 rfl) ow158 c11_407 mf57 (Nat.le_of_ble_eq_true rfl) rfl rfl (Nat.le_of_ble_eq_true rfl) (Nat.le_of_ble_eq_true rfl) ob_34
theorem E158_38 {d sl : Nat} {p : Nat → Nat} {I : Nat → Nat → Int32} {J : Nat → Nat → Int64} (l1 : Int32) (l2 : Int32) (s0 : Int32)  : ev d 158 38 [.ref 1, .int l1, .int l2] [.int s0] (S sl p I J) = some (some (.int s0), (S sl p I J)) := by
  exact r_ret (dk D158 20 rfl) rt158
theorem E158_48 {d sl : Nat} {p : Nat → Nat} {I : Nat → Nat → Int32} {J : Nat → Nat → Int64} (l1 : Int32) (l2 : Int32) (s0 : Int32)  : ev (d + 1) 158 48 [.ref 1, .int l1, .int l2] [.int s0, .ref 1] (S sl p I J) = evK (d + 1) 158 51 [.ref 1, .int l1, .int l2] [] (den d 163 [.ref 1, .int s0] (S sl p I J)) := by
  exact r_cv (dk D158 26 rfl) ow158 c11_92 mf163 (Nat.le_of_ble_eq_true rfl) rfl rfl (Nat.le_of_ble_eq_true rfl) (Nat.le_of_ble_eq_true rfl) ob_1
theorem E158_51 {d sl : Nat} {p : Nat → Nat} {I : Nat → Nat → Int32} {J : Nat → Nat → Int64} (l1 : Int32) (l2 : Int32) (s0 : Int32)  : ev d 158 51 [.ref 1, .int l1, .int l2] [.int s0] (S sl p I J) = some (some (.int s0), (S sl p I J)) := by
  exact r_ret (dk D158 27 rfl) rt158
set_option maxRecDepth 20000 in
theorem D159 : dOK 159 [(0, .iload_n 1, 1), (1, .iconst 0, 1), (2, .iconst 1, 1), (3, .invokestatic 121, 3), (6, .ifCond .ne 9, 3), (9, .aload_n 0, 1), (10, .iconst 1, 1), (11, .invokevirtual 81, 3), (14, .ireturn, 1), (15, .aload_n 0, 1), (16, .getfield 30, 3), (19, .invokevirtual 144, 3), (22, .aload_n 0, 1), (23, .getfield 55, 3), (26, .invokevirtual 386, 3), (29, .iconst 0, 1), (30, .istore_n 2, 1), (31, .ldc_w 410, 3), (34, .istore_n 3, 1), (35, .iconst 0, 1), (36, .istore 4, 2), (38, .iload 4, 2), (40, .sipush 360, 3), (43, .if_icmp .ge 39, 3), (46, .aload_n 0, 1), (47, .getfield 55, 3), (50, .iload 4, 2), (52, .aload_n 0, 1), (53, .getfield 55, 3), (56, .getfield 392, 3), (59, .invokevirtual 411, 3), (62, .istore 5, 2), (64, .iload 5, 2), (66, .iload_n 3, 1), (67, .if_icmp .ge 9, 3), (70, .iload 5, 2), (72, .istore_n 3, 1), (73, .iload 4, 2), (75, .istore_n 2, 1), (76, .iinc 4 10, 3), (79, .goto (-41), 3), (82, .aload_n 0, 1), (83, .iload_n 1, 1), (84, .ifCond .ne 7, 3), (87, .iload_n 2, 1), (88, .goto 4, 3), (91, .iload_n 3, 1), (92, .invokevirtual 92, 3), (95, .ireturn, 1)] = true := by decide +kernel
theorem E159_0 {d sl : Nat} {p : Nat → Nat} {I : Nat → Nat → Int32} {J : Nat → Nat → Int64} (a1 : Int32)  : den (d + 1) 159 [.ref 1, .int a1] (S sl p I J) = evK (d + 1) 159 6 [.ref 1, .int a1, .retAddr 0, .retAddr 0, .retAddr 0, .retAddr 0] [] (den d 167 [.int a1, .int 0, .int 1] (S sl p I J)) := by
  refine (show den (d + 1) 159 [.ref 1, .int a1] (S sl p I J) = ev (d + 1) 159 0 [.ref 1, .int a1, .retAddr 0, .retAddr 0, .retAddr 0, .retAddr 0] [] (S sl p I J) from rfl).trans ?_
  refine (r_iln (dk D159 0 rfl) rfl).trans ?_
  refine (r_ic (dk D159 1 rfl) ci0).trans ?_
  refine (r_ic (dk D159 2 rfl) ci1).trans ?_
  exact r_cs (dk D159 3 rfl) ow159 pn11_121 c11_121 mf167 (Nat.le_of_ble_eq_true rfl) rfl rfl (Nat.le_of_ble_eq_true rfl) (Nat.le_of_ble_eq_true rfl)
theorem E159_6 {d sl : Nat} {p : Nat → Nat} {I : Nat → Nat → Int32} {J : Nat → Nat → Int64} (l1 : Int32) (s0 : Int32)  : ev (d + 1) 159 6 [.ref 1, .int l1, .retAddr 0, .retAddr 0, .retAddr 0, .retAddr 0] [.int s0] (S sl p I J) = (if s0 = 0 then evK (d + 1) 159 14 [.ref 1, .int l1, .retAddr 0, .retAddr 0, .retAddr 0, .retAddr 0] [] (den d 164 [.ref 1, .int 1] (S sl p I J)) else evK (d + 1) 159 22 [.ref 1, .int l1, .retAddr 0, .retAddr 0, .retAddr 0, .retAddr 0] [] (den d 104 [.ref 11] (S sl p I J))) := by
  refine (r_ne0 (dk D159 4 rfl) rfl).trans (ite2 ?_ ?_)
  · refine (r_aln (dk D159 5 rfl) rfl).trans ?_
    refine (r_ic (dk D159 6 rfl) ci1).trans ?_
    exact r_cv (dk D159 7 rfl) ow159 c11_81 mf164 (Nat.le_of_ble_eq_true rfl) rfl rfl (Nat.le_of_ble_eq_true rfl) (Nat.le_of_ble_eq_true rfl) ob_1
  · refine (r_aln (dk D159 9 rfl) rfl).trans ?_
    refine (r_getR (dk D159 10 rfl) ow159 q11_30 ob_1 rfl).trans ?_
    exact r_cv (dk D159 11 rfl) ow159 c11_144 mf104 (Nat.le_of_ble_eq_true rfl) rfl rfl (Nat.le_of_ble_eq_true rfl) (Nat.le_of_ble_eq_true rfl) ob_11
theorem E159_14 {d sl : Nat} {p : Nat → Nat} {I : Nat → Nat → Int32} {J : Nat → Nat → Int64} (l1 : Int32) (s0 : Int32)  : ev d 159 14 [.ref 1, .int l1, .retAddr 0, .retAddr 0, .retAddr 0, .retAddr 0] [.int s0] (S sl p I J) = some (some (.int s0), (S sl p I J)) := by
  exact r_ret (dk D159 8 rfl) rt159
theorem E159_22 {d sl : Nat} {p : Nat → Nat} {I : Nat → Nat → Int32} {J : Nat → Nat → Int64} (l1 : Int32)  : ev (d + 1) 159 22 [.ref 1, .int l1, .retAddr 0, .retAddr 0, .retAddr 0, .retAddr 0] [] (S sl p I J) = evK (d + 1) 159 29 [.ref 1, .int l1, .retAddr 0, .retAddr 0, .retAddr 0, .retAddr 0] [] (den d 52 [.ref 34] (S sl p I J)) := by
  refine (r_aln (dk D159 12 rfl) rfl).trans ?_
  refine (r_getR (dk D159 13 rfl) ow159 q11_55 ob_1 rfl).trans ?_
  exact r_cv (dk D159 14 rfl) ow159 c11_386 mf52 (Nat.le_of_ble_eq_true rfl) rfl rfl (Nat.le_of_ble_eq_true rfl) (Nat.le_of_ble_eq_true rfl) ob_34
theorem E159_29 {d sl : Nat} {p : Nat → Nat} {I : Nat → Nat → Int32} {J : Nat → Nat → Int64} (l1 : Int32)  : ev d 159 29 [.ref 1, .int l1, .retAddr 0, .retAddr 0, .retAddr 0, .retAddr 0] [] (S sl p I J) = ev d 159 38 [.ref 1, .int l1, .int 0, .int 1073741824, .int 0, .retAddr 0] [] (S sl p I J) := by
  refine (r_ic (dk D159 15 rfl) ci0).trans ?_
  refine (r_isn (L' := [.ref 1, .int l1, .int 0, .retAddr 0, .retAddr 0, .retAddr 0]) (dk D159 16 rfl) (Nat.le_of_ble_eq_true rfl) rfl).trans ?_
  refine (r_ldcw (dk D159 17 rfl) ow159 k11_410).trans ?_
  refine (r_isn (L' := [.ref 1, .int l1, .int 0, .int 1073741824, .retAddr 0, .retAddr 0]) (dk D159 18 rfl) (Nat.le_of_ble_eq_true rfl) rfl).trans ?_
  refine (r_ic (dk D159 19 rfl) ci0).trans ?_
  refine (r_is (L' := [.ref 1, .int l1, .int 0, .int 1073741824, .int 0, .retAddr 0]) (dk D159 20 rfl) (Nat.le_of_ble_eq_true rfl) rfl).trans ?_
  exact rfl
theorem E159_38 {d sl : Nat} {p : Nat → Nat} {I : Nat → Nat → Int32} {J : Nat → Nat → Int64} (l1 : Int32) (l2 : Int32) (l3 : Int32) (l4 : Int32)  : ev (d + 1) 159 38 [.ref 1, .int l1, .int l2, .int l3, .int l4, .retAddr 0] [] (S sl p I J) = (if l4 < 360 then evK (d + 1) 159 62 [.ref 1, .int l1, .int l2, .int l3, .int l4, .retAddr 0] [] (den d 56 [.ref 34, .int l4, .int (I 34 6)] (S sl p I J)) else (if l1 = 0 then ev (d + 1) 159 92 [.ref 1, .int l1, .int l2, .int l3, .int l4, .retAddr 0] [.int l2, .ref 1] (S sl p I J) else ev (d + 1) 159 92 [.ref 1, .int l1, .int l2, .int l3, .int l4, .retAddr 0] [.int l3, .ref 1] (S sl p I J))) := by
  refine (r_il (dk D159 21 rfl) rfl).trans ?_
  refine (r_sp (dk D159 22 rfl) cs360).trans ?_
  refine (r_ge (dk D159 23 rfl) rfl).trans (ite2 ?_ ?_)
  · refine (r_aln (dk D159 24 rfl) rfl).trans ?_
    refine (r_getR (dk D159 25 rfl) ow159 q11_55 ob_1 rfl).trans ?_
    refine (r_il (dk D159 26 rfl) rfl).trans ?_
    refine (r_aln (dk D159 27 rfl) rfl).trans ?_
    refine (r_getR (dk D159 28 rfl) ow159 q11_55 ob_1 rfl).trans ?_
    refine (r_getI (dk D159 29 rfl) ow159 q11_392 ob_34).trans ?_
    exact r_cv (dk D159 30 rfl) ow159 c11_411 mf56 (Nat.le_of_ble_eq_true rfl) rfl rfl (Nat.le_of_ble_eq_true rfl) (Nat.le_of_ble_eq_true rfl) ob_34
  · refine (r_aln (dk D159 41 rfl) rfl).trans ?_
    refine (r_iln (dk D159 42 rfl) rfl).trans ?_
    refine (r_ne0 (dk D159 43 rfl) rfl).trans (ite2 ?_ ?_)
    · refine (r_iln (dk D159 44 rfl) rfl).trans ?_
      refine (r_goto (L' := [.ref 1, .int l1, .int l2, .int l3, .int l4, .retAddr 0]) (dk D159 45 rfl) rfl nd159_92 rfl).trans ?_
      exact rfl
    · refine (r_iln (dk D159 46 rfl) rfl).trans ?_
      exact rfl
theorem E159_62 {d sl : Nat} {p : Nat → Nat} {I : Nat → Nat → Int32} {J : Nat → Nat → Int64} (l1 : Int32) (l2 : Int32) (l3 : Int32) (l4 : Int32) (s0 : Int32)  : ev d 159 62 [.ref 1, .int l1, .int l2, .int l3, .int l4, .retAddr 0] [.int s0] (S sl p I J) = (if s0 < l3 then ev d 159 38 [.ref 1, .int l1, .int l4, .int s0, .int (l4 + 10), .retAddr 0] [] (S sl p I J) else ev d 159 38 [.ref 1, .int l1, .int l2, .int l3, .int (l4 + 10), .retAddr 0] [] (S sl p I J)) := by
  refine (r_is (L' := [.ref 1, .int l1, .int l2, .int l3, .int l4, .int s0]) (dk D159 31 rfl) (Nat.le_of_ble_eq_true rfl) rfl).trans ?_
  refine (r_il (dk D159 32 rfl) rfl).trans ?_
  refine (r_iln (dk D159 33 rfl) rfl).trans ?_
  refine (r_ge (dk D159 34 rfl) rfl).trans (ite2 ?_ ?_)
  · refine (r_il (dk D159 35 rfl) rfl).trans ?_
    refine (r_isn (L' := [.ref 1, .int l1, .int l2, .int s0, .int l4, .int s0]) (dk D159 36 rfl) (Nat.le_of_ble_eq_true rfl) rfl).trans ?_
    refine (r_il (dk D159 37 rfl) rfl).trans ?_
    refine (r_isn (L' := [.ref 1, .int l1, .int l4, .int s0, .int l4, .int s0]) (dk D159 38 rfl) (Nat.le_of_ble_eq_true rfl) rfl).trans ?_
    refine (r_inc (L' := [.ref 1, .int l1, .int l4, .int s0, .int (l4 + 10), .int s0]) (dk D159 39 rfl) rfl rfl ci10 (Nat.le_of_ble_eq_true rfl) rfl).trans ?_
    refine (r_goto (L' := [.ref 1, .int l1, .int l4, .int s0, .int (l4 + 10), .retAddr 0]) (dk D159 40 rfl) rfl nd159_38 rfl).trans ?_
    exact rfl
  · refine (r_inc (L' := [.ref 1, .int l1, .int l2, .int l3, .int (l4 + 10), .int s0]) (dk D159 39 rfl) rfl rfl ci10 (Nat.le_of_ble_eq_true rfl) rfl).trans ?_
    refine (r_goto (L' := [.ref 1, .int l1, .int l2, .int l3, .int (l4 + 10), .retAddr 0]) (dk D159 40 rfl) rfl nd159_38 rfl).trans ?_
    exact rfl
theorem E159_92 {d sl : Nat} {p : Nat → Nat} {I : Nat → Nat → Int32} {J : Nat → Nat → Int64} (l1 : Int32) (l2 : Int32) (l3 : Int32) (l4 : Int32) (s0 : Int32)  : ev (d + 1) 159 92 [.ref 1, .int l1, .int l2, .int l3, .int l4, .retAddr 0] [.int s0, .ref 1] (S sl p I J) = evK (d + 1) 159 95 [.ref 1, .int l1, .int l2, .int l3, .int l4, .retAddr 0] [] (den d 163 [.ref 1, .int s0] (S sl p I J)) := by
  exact r_cv (dk D159 47 rfl) ow159 c11_92 mf163 (Nat.le_of_ble_eq_true rfl) rfl rfl (Nat.le_of_ble_eq_true rfl) (Nat.le_of_ble_eq_true rfl) ob_1
theorem E159_95 {d sl : Nat} {p : Nat → Nat} {I : Nat → Nat → Int32} {J : Nat → Nat → Int64} (l1 : Int32) (l2 : Int32) (l3 : Int32) (l4 : Int32) (s0 : Int32)  : ev d 159 95 [.ref 1, .int l1, .int l2, .int l3, .int l4, .retAddr 0] [.int s0] (S sl p I J) = some (some (.int s0), (S sl p I J)) := by
  exact r_ret (dk D159 48 rfl) rt159
set_option maxRecDepth 20000 in
theorem D160 : dOK 160 [(0, .aload_n 0, 1), (1, .getfield 30, 3), (4, .invokevirtual 144, 3), (7, .aload_n 0, 1), (8, .getfield 55, 3), (11, .invokevirtual 386, 3), (14, .iconst 0, 1), (15, .istore_n 1, 1), (16, .iconst 1, 1), (17, .istore_n 2, 1), (18, .iload_n 2, 1), (19, .bipush 90, 2), (21, .if_icmp .gt 32, 3), (24, .aload_n 0, 1), (25, .getfield 55, 3), (28, .aload_n 0, 1), (29, .getfield 55, 3), (32, .getfield 389, 3), (35, .iload_n 2, 1), (36, .invokevirtual 411, 3), (39, .ifCond .le 6, 3), (42, .goto 11, 3), (45, .iload_n 2, 1), (46, .istore_n 1, 1), (47, .iinc 2 1, 3), (50, .goto (-32), 3), (53, .aload_n 0, 1), (54, .iload_n 1, 1), (55, .invokevirtual 92, 3), (58, .ireturn, 1)] = true := by decide +kernel
theorem E160_0 {d sl : Nat} {p : Nat → Nat} {I : Nat → Nat → Int32} {J : Nat → Nat → Int64}   : den (d + 1) 160 [.ref 1] (S sl p I J) = evK (d + 1) 160 7 [.ref 1, .retAddr 0, .retAddr 0] [] (den d 104 [.ref 11] (S sl p I J)) := by
  refine (show den (d + 1) 160 [.ref 1] (S sl p I J) = ev (d + 1) 160 0 [.ref 1, .retAddr 0, .retAddr 0] [] (S sl p I J) from rfl).trans ?_
  refine (r_aln (dk D160 0 rfl) rfl).trans ?_
  refine (r_getR (dk D160 1 rfl) ow160 q11_30 ob_1 rfl).trans ?_
  exact r_cv (dk D160 2 rfl) ow160 c11_144 mf104 (Nat.le_of_ble_eq_true rfl) rfl rfl (Nat.le_of_ble_eq_true rfl) (Nat.le_of_ble_eq_true rfl) ob_11
theorem E160_7 {d sl : Nat} {p : Nat → Nat} {I : Nat → Nat → Int32} {J : Nat → Nat → Int64}   : ev (d + 1) 160 7 [.ref 1, .retAddr 0, .retAddr 0] [] (S sl p I J) = evK (d + 1) 160 14 [.ref 1, .retAddr 0, .retAddr 0] [] (den d 52 [.ref 34] (S sl p I J)) := by
  refine (r_aln (dk D160 3 rfl) rfl).trans ?_
  refine (r_getR (dk D160 4 rfl) ow160 q11_55 ob_1 rfl).trans ?_
  exact r_cv (dk D160 5 rfl) ow160 c11_386 mf52 (Nat.le_of_ble_eq_true rfl) rfl rfl (Nat.le_of_ble_eq_true rfl) (Nat.le_of_ble_eq_true rfl) ob_34
theorem E160_14 {d sl : Nat} {p : Nat → Nat} {I : Nat → Nat → Int32} {J : Nat → Nat → Int64}   : ev d 160 14 [.ref 1, .retAddr 0, .retAddr 0] [] (S sl p I J) = ev d 160 18 [.ref 1, .int 0, .int 1] [] (S sl p I J) := by
  refine (r_ic (dk D160 6 rfl) ci0).trans ?_
  refine (r_isn (L' := [.ref 1, .int 0, .retAddr 0]) (dk D160 7 rfl) (Nat.le_of_ble_eq_true rfl) rfl).trans ?_
  refine (r_ic (dk D160 8 rfl) ci1).trans ?_
  refine (r_isn (L' := [.ref 1, .int 0, .int 1]) (dk D160 9 rfl) (Nat.le_of_ble_eq_true rfl) rfl).trans ?_
  exact rfl
theorem E160_18 {d sl : Nat} {p : Nat → Nat} {I : Nat → Nat → Int32} {J : Nat → Nat → Int64} (l1 : Int32) (l2 : Int32)  : ev (d + 1) 160 18 [.ref 1, .int l1, .int l2] [] (S sl p I J) = (if l2 ≤ 90 then evK (d + 1) 160 39 [.ref 1, .int l1, .int l2] [] (den d 56 [.ref 34, .int (I 34 5), .int l2] (S sl p I J)) else ev (d + 1) 160 53 [.ref 1, .int l1, .int l2] [] (S sl p I J)) := by
  refine (r_iln (dk D160 10 rfl) rfl).trans ?_
  refine (r_bp (dk D160 11 rfl) cb90).trans ?_
  refine (r_gt (dk D160 12 rfl) rfl).trans (ite2 ?_ ?_)
  · refine (r_aln (dk D160 13 rfl) rfl).trans ?_
    refine (r_getR (dk D160 14 rfl) ow160 q11_55 ob_1 rfl).trans ?_
    refine (r_aln (dk D160 15 rfl) rfl).trans ?_
    refine (r_getR (dk D160 16 rfl) ow160 q11_55 ob_1 rfl).trans ?_
    refine (r_getI (dk D160 17 rfl) ow160 q11_389 ob_34).trans ?_
    refine (r_iln (dk D160 18 rfl) rfl).trans ?_
    exact r_cv (dk D160 19 rfl) ow160 c11_411 mf56 (Nat.le_of_ble_eq_true rfl) rfl rfl (Nat.le_of_ble_eq_true rfl) (Nat.le_of_ble_eq_true rfl) ob_34
  · exact rfl
theorem E160_39 {d sl : Nat} {p : Nat → Nat} {I : Nat → Nat → Int32} {J : Nat → Nat → Int64} (l1 : Int32) (l2 : Int32) (s0 : Int32)  : ev d 160 39 [.ref 1, .int l1, .int l2] [.int s0] (S sl p I J) = (if s0 ≤ 0 then ev d 160 18 [.ref 1, .int l2, .int (l2 + 1)] [] (S sl p I J) else ev d 160 53 [.ref 1, .int l1, .int l2] [] (S sl p I J)) := by
  refine (r_le0 (dk D160 20 rfl) rfl).trans (ite2 ?_ ?_)
  · refine (r_iln (dk D160 22 rfl) rfl).trans ?_
    refine (r_isn (L' := [.ref 1, .int l2, .int l2]) (dk D160 23 rfl) (Nat.le_of_ble_eq_true rfl) rfl).trans ?_
    refine (r_inc (L' := [.ref 1, .int l2, .int (l2 + 1)]) (dk D160 24 rfl) rfl rfl ci1 (Nat.le_of_ble_eq_true rfl) rfl).trans ?_
    refine (r_goto (L' := [.ref 1, .int l2, .int (l2 + 1)]) (dk D160 25 rfl) rfl nd160_18 rfl).trans ?_
    exact rfl
  · refine (r_goto (L' := [.ref 1, .int l1, .int l2]) (dk D160 21 rfl) rfl nd160_53 rfl).trans ?_
    exact rfl
theorem E160_53 {d sl : Nat} {p : Nat → Nat} {I : Nat → Nat → Int32} {J : Nat → Nat → Int64} (l1 : Int32) (l2 : Int32)  : ev (d + 1) 160 53 [.ref 1, .int l1, .int l2] [] (S sl p I J) = evK (d + 1) 160 58 [.ref 1, .int l1, .int l2] [] (den d 163 [.ref 1, .int l1] (S sl p I J)) := by
  refine (r_aln (dk D160 26 rfl) rfl).trans ?_
  refine (r_iln (dk D160 27 rfl) rfl).trans ?_
  exact r_cv (dk D160 28 rfl) ow160 c11_92 mf163 (Nat.le_of_ble_eq_true rfl) rfl rfl (Nat.le_of_ble_eq_true rfl) (Nat.le_of_ble_eq_true rfl) ob_1
theorem E160_58 {d sl : Nat} {p : Nat → Nat} {I : Nat → Nat → Int32} {J : Nat → Nat → Int64} (l1 : Int32) (l2 : Int32) (s0 : Int32)  : ev d 160 58 [.ref 1, .int l1, .int l2] [.int s0] (S sl p I J) = some (some (.int s0), (S sl p I J)) := by
  exact r_ret (dk D160 29 rfl) rt160
set_option maxRecDepth 20000 in
theorem D161 : dOK 161 [(0, .iload_n 3, 1), (1, .iconst 0, 1), (2, .sipush 359, 3), (5, .invokestatic 121, 3), (8, .ifCond .eq 17, 3), (11, .iload 4, 2), (13, .sipush (-180), 3), (16, .sipush 180, 3), (19, .invokestatic 121, 3), (22, .ifCond .ne 9, 3), (25, .aload_n 0, 1), (26, .iconst 1, 1), (27, .invokevirtual 81, 3), (30, .ireturn, 1), (31, .aload_n 0, 1), (32, .iload_n 1, 1), (33, .iload_n 2, 1), (34, .invokevirtual 211, 3), (37, .ifCond .ne 9, 3), (40, .aload_n 0, 1), (41, .iconst 2, 1), (42, .invokevirtual 81, 3), (45, .ireturn, 1), (46, .aload_n 0, 1), (47, .getfield 30, 3), (50, .invokevirtual 144, 3), (53, .aload_n 0, 1), (54, .aload_n 0, 1), (55, .getfield 62, 3), (58, .iload_n 1, 1), (59, .iload_n 2, 1), (60, .iload_n 3, 1), (61, .iload 4, 2), (63, .invokevirtual 414, 3), (66, .invokevirtual 92, 3), (69, .ireturn, 1)] = true := by decide +kernel
theorem E161_0 {d sl : Nat} {p : Nat → Nat} {I : Nat → Nat → Int32} {J : Nat → Nat → Int64} (a1 : Int32) (a2 : Int32) (a3 : Int32) (a4 : Int32)  : den (d + 1) 161 [.ref 1, .int a1, .int a2, .int a3, .int a4] (S sl p I J) = evK (d + 1) 161 8 [.ref 1, .int a1, .int a2, .int a3, .int a4] [] (den d 167 [.int a3, .int 0, .int 359] (S sl p I J)) := by
  refine (show den (d + 1) 161 [.ref 1, .int a1, .int a2, .int a3, .int a4] (S sl p I J) = ev (d + 1) 161 0 [.ref 1, .int a1, .int a2, .int a3, .int a4] [] (S sl p I J) from rfl).trans ?_
  refine (r_iln (dk D161 0 rfl) rfl).trans ?_
  refine (r_ic (dk D161 1 rfl) ci0).trans ?_
  refine (r_sp (dk D161 2 rfl) cs359).trans ?_
  exact r_cs (dk D161 3 rfl) ow161 pn11_121 c11_121 mf167 (Nat.le_of_ble_eq_true rfl) rfl rfl (Nat.le_of_ble_eq_true rfl) (Nat.le_of_ble_eq_true rfl)
theorem E161_8 {d sl : Nat} {p : Nat → Nat} {I : Nat → Nat → Int32} {J : Nat → Nat → Int64} (l1 : Int32) (l2 : Int32) (l3 : Int32) (l4 : Int32) (s0 : Int32)  : ev (d + 1) 161 8 [.ref 1, .int l1, .int l2, .int l3, .int l4] [.int s0] (S sl p I J) = (if s0 = 0 then ev (d + 1) 161 25 [.ref 1, .int l1, .int l2, .int l3, .int l4] [] (S sl p I J) else evK (d + 1) 161 22 [.ref 1, .int l1, .int l2, .int l3, .int l4] [] (den d 167 [.int l4, .int (-180), .int 180] (S sl p I J))) := by
  refine (r_eq0 (dk D161 4 rfl) rfl).trans (ite2 ?_ ?_)
  · exact rfl
  · refine (r_il (dk D161 5 rfl) rfl).trans ?_
    refine (r_sp (dk D161 6 rfl) csm180).trans ?_
    refine (r_sp (dk D161 7 rfl) cs180).trans ?_
    exact r_cs (dk D161 8 rfl) ow161 pn11_121 c11_121 mf167 (Nat.le_of_ble_eq_true rfl) rfl rfl (Nat.le_of_ble_eq_true rfl) (Nat.le_of_ble_eq_true rfl)
theorem E161_22 {d sl : Nat} {p : Nat → Nat} {I : Nat → Nat → Int32} {J : Nat → Nat → Int64} (l1 : Int32) (l2 : Int32) (l3 : Int32) (l4 : Int32) (s0 : Int32)  : ev (d + 1) 161 22 [.ref 1, .int l1, .int l2, .int l3, .int l4] [.int s0] (S sl p I J) = (if s0 = 0 then ev (d + 1) 161 25 [.ref 1, .int l1, .int l2, .int l3, .int l4] [] (S sl p I J) else evK (d + 1) 161 37 [.ref 1, .int l1, .int l2, .int l3, .int l4] [] (den d 166 [.ref 1, .int l1, .int l2] (S sl p I J))) := by
  refine (r_ne0 (dk D161 9 rfl) rfl).trans (ite2 ?_ ?_)
  · exact rfl
  · refine (r_aln (dk D161 14 rfl) rfl).trans ?_
    refine (r_iln (dk D161 15 rfl) rfl).trans ?_
    refine (r_iln (dk D161 16 rfl) rfl).trans ?_
    exact r_cv (dk D161 17 rfl) ow161 c11_211 mf166 (Nat.le_of_ble_eq_true rfl) rfl rfl (Nat.le_of_ble_eq_true rfl) (Nat.le_of_ble_eq_true rfl) ob_1
theorem E161_25 {d sl : Nat} {p : Nat → Nat} {I : Nat → Nat → Int32} {J : Nat → Nat → Int64} (l1 : Int32) (l2 : Int32) (l3 : Int32) (l4 : Int32)  : ev (d + 1) 161 25 [.ref 1, .int l1, .int l2, .int l3, .int l4] [] (S sl p I J) = evK (d + 1) 161 30 [.ref 1, .int l1, .int l2, .int l3, .int l4] [] (den d 164 [.ref 1, .int 1] (S sl p I J)) := by
  refine (r_aln (dk D161 10 rfl) rfl).trans ?_
  refine (r_ic (dk D161 11 rfl) ci1).trans ?_
  exact r_cv (dk D161 12 rfl) ow161 c11_81 mf164 (Nat.le_of_ble_eq_true rfl) rfl rfl (Nat.le_of_ble_eq_true rfl) (Nat.le_of_ble_eq_true rfl) ob_1
theorem E161_30 {d sl : Nat} {p : Nat → Nat} {I : Nat → Nat → Int32} {J : Nat → Nat → Int64} (l1 : Int32) (l2 : Int32) (l3 : Int32) (l4 : Int32) (s0 : Int32)  : ev d 161 30 [.ref 1, .int l1, .int l2, .int l3, .int l4] [.int s0] (S sl p I J) = some (some (.int s0), (S sl p I J)) := by
  exact r_ret (dk D161 13 rfl) rt161
theorem E161_37 {d sl : Nat} {p : Nat → Nat} {I : Nat → Nat → Int32} {J : Nat → Nat → Int64} (l1 : Int32) (l2 : Int32) (l3 : Int32) (l4 : Int32) (s0 : Int32)  : ev (d + 1) 161 37 [.ref 1, .int l1, .int l2, .int l3, .int l4] [.int s0] (S sl p I J) = (if s0 = 0 then evK (d + 1) 161 45 [.ref 1, .int l1, .int l2, .int l3, .int l4] [] (den d 164 [.ref 1, .int 2] (S sl p I J)) else evK (d + 1) 161 53 [.ref 1, .int l1, .int l2, .int l3, .int l4] [] (den d 104 [.ref 11] (S sl p I J))) := by
  refine (r_ne0 (dk D161 18 rfl) rfl).trans (ite2 ?_ ?_)
  · refine (r_aln (dk D161 19 rfl) rfl).trans ?_
    refine (r_ic (dk D161 20 rfl) ci2).trans ?_
    exact r_cv (dk D161 21 rfl) ow161 c11_81 mf164 (Nat.le_of_ble_eq_true rfl) rfl rfl (Nat.le_of_ble_eq_true rfl) (Nat.le_of_ble_eq_true rfl) ob_1
  · refine (r_aln (dk D161 23 rfl) rfl).trans ?_
    refine (r_getR (dk D161 24 rfl) ow161 q11_30 ob_1 rfl).trans ?_
    exact r_cv (dk D161 25 rfl) ow161 c11_144 mf104 (Nat.le_of_ble_eq_true rfl) rfl rfl (Nat.le_of_ble_eq_true rfl) (Nat.le_of_ble_eq_true rfl) ob_11
theorem E161_45 {d sl : Nat} {p : Nat → Nat} {I : Nat → Nat → Int32} {J : Nat → Nat → Int64} (l1 : Int32) (l2 : Int32) (l3 : Int32) (l4 : Int32) (s0 : Int32)  : ev d 161 45 [.ref 1, .int l1, .int l2, .int l3, .int l4] [.int s0] (S sl p I J) = some (some (.int s0), (S sl p I J)) := by
  exact r_ret (dk D161 22 rfl) rt161
theorem E161_53 {d sl : Nat} {p : Nat → Nat} {I : Nat → Nat → Int32} {J : Nat → Nat → Int64} (l1 : Int32) (l2 : Int32) (l3 : Int32) (l4 : Int32)  : ev (d + 1) 161 53 [.ref 1, .int l1, .int l2, .int l3, .int l4] [] (S sl p I J) = evK (d + 1) 161 66 [.ref 1, .int l1, .int l2, .int l3, .int l4] [.ref 1] (den d 23 [.ref 38, .int l1, .int l2, .int l3, .int l4] (S sl p I J)) := by
  refine (r_aln (dk D161 26 rfl) rfl).trans ?_
  refine (r_aln (dk D161 27 rfl) rfl).trans ?_
  refine (r_getR (dk D161 28 rfl) ow161 q11_62 ob_1 rfl).trans ?_
  refine (r_iln (dk D161 29 rfl) rfl).trans ?_
  refine (r_iln (dk D161 30 rfl) rfl).trans ?_
  refine (r_iln (dk D161 31 rfl) rfl).trans ?_
  refine (r_il (dk D161 32 rfl) rfl).trans ?_
  exact r_cv (dk D161 33 rfl) ow161 c11_414 mf23 (Nat.le_of_ble_eq_true rfl) rfl rfl (Nat.le_of_ble_eq_true rfl) (Nat.le_of_ble_eq_true rfl) ob_38
theorem E161_66 {d sl : Nat} {p : Nat → Nat} {I : Nat → Nat → Int32} {J : Nat → Nat → Int64} (l1 : Int32) (l2 : Int32) (l3 : Int32) (l4 : Int32) (s0 : Int32)  : ev (d + 1) 161 66 [.ref 1, .int l1, .int l2, .int l3, .int l4] [.int s0, .ref 1] (S sl p I J) = evK (d + 1) 161 69 [.ref 1, .int l1, .int l2, .int l3, .int l4] [] (den d 163 [.ref 1, .int s0] (S sl p I J)) := by
  exact r_cv (dk D161 34 rfl) ow161 c11_92 mf163 (Nat.le_of_ble_eq_true rfl) rfl rfl (Nat.le_of_ble_eq_true rfl) (Nat.le_of_ble_eq_true rfl) ob_1
theorem E161_69 {d sl : Nat} {p : Nat → Nat} {I : Nat → Nat → Int32} {J : Nat → Nat → Int64} (l1 : Int32) (l2 : Int32) (l3 : Int32) (l4 : Int32) (s0 : Int32)  : ev d 161 69 [.ref 1, .int l1, .int l2, .int l3, .int l4] [.int s0] (S sl p I J) = some (some (.int s0), (S sl p I J)) := by
  exact r_ret (dk D161 35 rfl) rt161
set_option maxRecDepth 20000 in
theorem D162 : dOK 162 [(0, .iload_n 3, 1), (1, .iconst 0, 1), (2, .sipush 359, 3), (5, .invokestatic 121, 3), (8, .ifCond .eq 13, 3), (11, .iload 4, 2), (13, .iconst 0, 1), (14, .iconst 1, 1), (15, .invokestatic 121, 3), (18, .ifCond .ne 9, 3), (21, .aload_n 0, 1), (22, .iconst 1, 1), (23, .invokevirtual 81, 3), (26, .ireturn, 1), (27, .aload_n 0, 1), (28, .iload_n 1, 1), (29, .iload_n 2, 1), (30, .invokevirtual 211, 3), (33, .ifCond .ne 9, 3), (36, .aload_n 0, 1), (37, .iconst 2, 1), (38, .invokevirtual 81, 3), (41, .ireturn, 1), (42, .aload_n 0, 1), (43, .getfield 30, 3), (46, .invokevirtual 144, 3), (49, .iconst 0, 1), (50, .istore 5, 2), (52, .iconst (-1), 1), (53, .istore 6, 2), (55, .iconst 0, 1), (56, .istore 7, 2), (58, .iload 7, 2), (60, .bipush 90, 2), (62, .if_icmp .gt 38, 3), (65, .aload_n 0, 1), (66, .getfield 62, 3), (69, .iload_n 1, 1), (70, .iload_n 2, 1), (71, .iload_n 3, 1), (72, .iload 7, 2), (74, .invokevirtual 414, 3), (77, .istore 8, 2), (79, .iload 8, 2), (81, .iload 6, 2), (83, .if_icmp .le 11, 3), (86, .iload 8, 2), (88, .istore 6, 2), (90, .iload 7, 2), (92, .istore 5, 2), (94, .iinc 7 1, 3), (97, .goto (-39), 3), (100, .aload_n 0, 1), (101, .iload 4, 2), (103, .ifCond .ne 8, 3), (106, .iload 5, 2), (108, .goto 5, 3), (111, .iload 6, 2), (113, .invokevirtual 92, 3), (116, .ireturn, 1)] = true := by decide +kernel
theorem E162_0 {d sl : Nat} {p : Nat → Nat} {I : Nat → Nat → Int32} {J : Nat → Nat → Int64} (a1 : Int32) (a2 : Int32) (a3 : Int32) (a4 : Int32)  : den (d + 1) 162 [.ref 1, .int a1, .int a2, .int a3, .int a4] (S sl p I J) = evK (d + 1) 162 8 [.ref 1, .int a1, .int a2, .int a3, .int a4, .retAddr 0, .retAddr 0, .retAddr 0, .retAddr 0] [] (den d 167 [.int a3, .int 0, .int 359] (S sl p I J)) := by
  refine (show den (d + 1) 162 [.ref 1, .int a1, .int a2, .int a3, .int a4] (S sl p I J) = ev (d + 1) 162 0 [.ref 1, .int a1, .int a2, .int a3, .int a4, .retAddr 0, .retAddr 0, .retAddr 0, .retAddr 0] [] (S sl p I J) from rfl).trans ?_
  refine (r_iln (dk D162 0 rfl) rfl).trans ?_
  refine (r_ic (dk D162 1 rfl) ci0).trans ?_
  refine (r_sp (dk D162 2 rfl) cs359).trans ?_
  exact r_cs (dk D162 3 rfl) ow162 pn11_121 c11_121 mf167 (Nat.le_of_ble_eq_true rfl) rfl rfl (Nat.le_of_ble_eq_true rfl) (Nat.le_of_ble_eq_true rfl)
theorem E162_8 {d sl : Nat} {p : Nat → Nat} {I : Nat → Nat → Int32} {J : Nat → Nat → Int64} (l1 : Int32) (l2 : Int32) (l3 : Int32) (l4 : Int32) (s0 : Int32)  : ev (d + 1) 162 8 [.ref 1, .int l1, .int l2, .int l3, .int l4, .retAddr 0, .retAddr 0, .retAddr 0, .retAddr 0] [.int s0] (S sl p I J) = (if s0 = 0 then ev (d + 1) 162 21 [.ref 1, .int l1, .int l2, .int l3, .int l4, .retAddr 0, .retAddr 0, .retAddr 0, .retAddr 0] [] (S sl p I J) else evK (d + 1) 162 18 [.ref 1, .int l1, .int l2, .int l3, .int l4, .retAddr 0, .retAddr 0, .retAddr 0, .retAddr 0] [] (den d 167 [.int l4, .int 0, .int 1] (S sl p I J))) := by
  refine (r_eq0 (dk D162 4 rfl) rfl).trans (ite2 ?_ ?_)
  · exact rfl
  · refine (r_il (dk D162 5 rfl) rfl).trans ?_
    refine (r_ic (dk D162 6 rfl) ci0).trans ?_
    refine (r_ic (dk D162 7 rfl) ci1).trans ?_
    exact r_cs (dk D162 8 rfl) ow162 pn11_121 c11_121 mf167 (Nat.le_of_ble_eq_true rfl) rfl rfl (Nat.le_of_ble_eq_true rfl) (Nat.le_of_ble_eq_true rfl)
theorem E162_18 {d sl : Nat} {p : Nat → Nat} {I : Nat → Nat → Int32} {J : Nat → Nat → Int64} (l1 : Int32) (l2 : Int32) (l3 : Int32) (l4 : Int32) (s0 : Int32)  : ev (d + 1) 162 18 [.ref 1, .int l1, .int l2, .int l3, .int l4, .retAddr 0, .retAddr 0, .retAddr 0, .retAddr 0] [.int s0] (S sl p I J) = (if s0 = 0 then ev (d + 1) 162 21 [.ref 1, .int l1, .int l2, .int l3, .int l4, .retAddr 0, .retAddr 0, .retAddr 0, .retAddr 0] [] (S sl p I J) else evK (d + 1) 162 33 [.ref 1, .int l1, .int l2, .int l3, .int l4, .retAddr 0, .retAddr 0, .retAddr 0, .retAddr 0] [] (den d 166 [.ref 1, .int l1, .int l2] (S sl p I J))) := by
  refine (r_ne0 (dk D162 9 rfl) rfl).trans (ite2 ?_ ?_)
  · exact rfl
  · refine (r_aln (dk D162 14 rfl) rfl).trans ?_
    refine (r_iln (dk D162 15 rfl) rfl).trans ?_
    refine (r_iln (dk D162 16 rfl) rfl).trans ?_
    exact r_cv (dk D162 17 rfl) ow162 c11_211 mf166 (Nat.le_of_ble_eq_true rfl) rfl rfl (Nat.le_of_ble_eq_true rfl) (Nat.le_of_ble_eq_true rfl) ob_1
theorem E162_21 {d sl : Nat} {p : Nat → Nat} {I : Nat → Nat → Int32} {J : Nat → Nat → Int64} (l1 : Int32) (l2 : Int32) (l3 : Int32) (l4 : Int32)  : ev (d + 1) 162 21 [.ref 1, .int l1, .int l2, .int l3, .int l4, .retAddr 0, .retAddr 0, .retAddr 0, .retAddr 0] [] (S sl p I J) = evK (d + 1) 162 26 [.ref 1, .int l1, .int l2, .int l3, .int l4, .retAddr 0, .retAddr 0, .retAddr 0, .retAddr 0] [] (den d 164 [.ref 1, .int 1] (S sl p I J)) := by
  refine (r_aln (dk D162 10 rfl) rfl).trans ?_
  refine (r_ic (dk D162 11 rfl) ci1).trans ?_
  exact r_cv (dk D162 12 rfl) ow162 c11_81 mf164 (Nat.le_of_ble_eq_true rfl) rfl rfl (Nat.le_of_ble_eq_true rfl) (Nat.le_of_ble_eq_true rfl) ob_1
theorem E162_26 {d sl : Nat} {p : Nat → Nat} {I : Nat → Nat → Int32} {J : Nat → Nat → Int64} (l1 : Int32) (l2 : Int32) (l3 : Int32) (l4 : Int32) (s0 : Int32)  : ev d 162 26 [.ref 1, .int l1, .int l2, .int l3, .int l4, .retAddr 0, .retAddr 0, .retAddr 0, .retAddr 0] [.int s0] (S sl p I J) = some (some (.int s0), (S sl p I J)) := by
  exact r_ret (dk D162 13 rfl) rt162
theorem E162_33 {d sl : Nat} {p : Nat → Nat} {I : Nat → Nat → Int32} {J : Nat → Nat → Int64} (l1 : Int32) (l2 : Int32) (l3 : Int32) (l4 : Int32) (s0 : Int32)  : ev (d + 1) 162 33 [.ref 1, .int l1, .int l2, .int l3, .int l4, .retAddr 0, .retAddr 0, .retAddr 0, .retAddr 0] [.int s0] (S sl p I J) = (if s0 = 0 then evK (d + 1) 162 41 [.ref 1, .int l1, .int l2, .int l3, .int l4, .retAddr 0, .retAddr 0, .retAddr 0, .retAddr 0] [] (den d 164 [.ref 1, .int 2] (S sl p I J)) else evK (d + 1) 162 49 [.ref 1, .int l1, .int l2, .int l3, .int l4, .retAddr 0, .retAddr 0, .retAddr 0, .retAddr 0] [] (den d 104 [.ref 11] (S sl p I J))) := by
  refine (r_ne0 (dk D162 18 rfl) rfl).trans (ite2 ?_ ?_)
  · refine (r_aln (dk D162 19 rfl) rfl).trans ?_
    refine (r_ic (dk D162 20 rfl) ci2).trans ?_
    exact r_cv (dk D162 21 rfl) ow162 c11_81 mf164 (Nat.le_of_ble_eq_true rfl) rfl rfl (Nat.le_of_ble_eq_true rfl) (Nat.le_of_ble_eq_true rfl) ob_1
  · refine (r_aln (dk D162 23 rfl) rfl).trans ?_
    refine (r_getR (dk D162 24 rfl) ow162 q11_30 ob_1 rfl).trans ?_
    exact r_cv (dk D162 25 rfl) ow162 c11_144 mf104 (Nat.le_of_ble_eq_true rfl) rfl rfl (Nat.le_of_ble_eq_true rfl) (Nat.le_of_ble_eq_true rfl) ob_11
theorem E162_41 {d sl : Nat} {p : Nat → Nat} {I : Nat → Nat → Int32} {J : Nat → Nat → Int64} (l1 : Int32) (l2 : Int32) (l3 : Int32) (l4 : Int32) (s0 : Int32)  : ev d 162 41 [.ref 1, .int l1, .int l2, .int l3, .int l4, .retAddr 0, .retAddr 0, .retAddr 0, .retAddr 0] [.int s0] (S sl p I J) = some (some (.int s0), (S sl p I J)) := by
  exact r_ret (dk D162 22 rfl) rt162
theorem E162_49 {d sl : Nat} {p : Nat → Nat} {I : Nat → Nat → Int32} {J : Nat → Nat → Int64} (l1 : Int32) (l2 : Int32) (l3 : Int32) (l4 : Int32)  : ev d 162 49 [.ref 1, .int l1, .int l2, .int l3, .int l4, .retAddr 0, .retAddr 0, .retAddr 0, .retAddr 0] [] (S sl p I J) = ev d 162 58 [.ref 1, .int l1, .int l2, .int l3, .int l4, .int 0, .int (-1), .int 0, .retAddr 0] [] (S sl p I J) := by
  refine (r_ic (dk D162 26 rfl) ci0).trans ?_
  refine (r_is (L' := [.ref 1, .int l1, .int l2, .int l3, .int l4, .int 0, .retAddr 0, .retAddr 0, .retAddr 0]) (dk D162 27 rfl) (Nat.le_of_ble_eq_true rfl) rfl).trans ?_
  refine (r_ic (dk D162 28 rfl) cim1).trans ?_
  refine (r_is (L' := [.ref 1, .int l1, .int l2, .int l3, .int l4, .int 0, .int (-1), .retAddr 0, .retAddr 0]) (dk D162 29 rfl) (Nat.le_of_ble_eq_true rfl) rfl).trans ?_
  refine (r_ic (dk D162 30 rfl) ci0).trans ?_
  refine (r_is (L' := [.ref 1, .int l1, .int l2, .int l3, .int l4, .int 0, .int (-1), .int 0, .retAddr 0]) (dk D162 31 rfl) (Nat.le_of_ble_eq_true rfl) rfl).trans ?_
  exact rfl
theorem E162_58 {d sl : Nat} {p : Nat → Nat} {I : Nat → Nat → Int32} {J : Nat → Nat → Int64} (l1 : Int32) (l2 : Int32) (l3 : Int32) (l4 : Int32) (l5 : Int32) (l6 : Int32) (l7 : Int32)  : ev (d + 1) 162 58 [.ref 1, .int l1, .int l2, .int l3, .int l4, .int l5, .int l6, .int l7, .retAddr 0] [] (S sl p I J) = (if l7 ≤ 90 then evK (d + 1) 162 77 [.ref 1, .int l1, .int l2, .int l3, .int l4, .int l5, .int l6, .int l7, .retAddr 0] [] (den d 23 [.ref 38, .int l1, .int l2, .int l3, .int l7] (S sl p I J)) else (if l4 = 0 then ev (d + 1) 162 113 [.ref 1, .int l1, .int l2, .int l3, .int l4, .int l5, .int l6, .int l7, .retAddr 0] [.int l5, .ref 1] (S sl p I J) else ev (d + 1) 162 113 [.ref 1, .int l1, .int l2, .int l3, .int l4, .int l5, .int l6, .int l7, .retAddr 0] [.int l6, .ref 1] (S sl p I J))) := by
  refine (r_il (dk D162 32 rfl) rfl).trans ?_
  refine (r_bp (dk D162 33 rfl) cb90).trans ?_
  refine (r_gt (dk D162 34 rfl) rfl).trans (ite2 ?_ ?_)
  · refine (r_aln (dk D162 35 rfl) rfl).trans ?_
    refine (r_getR (dk D162 36 rfl) ow162 q11_62 ob_1 rfl).trans ?_
    refine (r_iln (dk D162 37 rfl) rfl).trans ?_
    refine (r_iln (dk D162 38 rfl) rfl).trans ?_
    refine (r_iln (dk D162 39 rfl) rfl).trans ?_
    refine (r_il (dk D162 40 rfl) rfl).trans ?_
    exact r_cv (dk D162 41 rfl) ow162 c11_414 mf23 (Nat.le_of_ble_eq_true rfl) rfl rfl (Nat.le_of_ble_eq_true rfl) (Nat.le_of_ble_eq_true rfl) ob_38
  · refine (r_aln (dk D162 52 rfl) rfl).trans ?_
    refine (r_il (dk D162 53 rfl) rfl).trans ?_
    refine (r_ne0 (dk D162 54 rfl) rfl).trans (ite2 ?_ ?_)
    · refine (r_il (dk D162 55 rfl) rfl).trans ?_
      refine (r_goto (L' := [.ref 1, .int l1, .int l2, .int l3, .int l4, .int l5, .int l6, .int l7, .retAddr 0]) (dk D162 56 rfl) rfl nd162_113 rfl).trans ?_
      exact rfl
    · refine (r_il (dk D162 57 rfl) rfl).trans ?_
      exact rfl
theorem E162_77 {d sl : Nat} {p : Nat → Nat} {I : Nat → Nat → Int32} {J : Nat → Nat → Int64} (l1 : Int32) (l2 : Int32) (l3 : Int32) (l4 : Int32) (l5 : Int32) (l6 : Int32) (l7 : Int32) (s0 : Int32)  : ev d 162 77 [.ref 1, .int l1, .int l2, .int l3, .int l4, .int l5, .int l6, .int l7, .retAddr 0] [.int s0] (S sl p I J) = (if s0 ≤ l6 then ev d 162 58 [.ref 1, .int l1, .int l2, .int l3, .int l4, .int l5, .int l6, .int (l7 + 1), .retAddr 0] [] (S sl p I J) else ev d 162 58 [.ref 1, .int l1, .int l2, .int l3, .int l4, .int l7, .int s0, .int (l7 + 1), .retAddr 0] [] (S sl p I J)) := by
  refine (r_is (L' := [.ref 1, .int l1, .int l2, .int l3, .int l4, .int l5, .int l6, .int l7, .int s0]) (dk D162 42 rfl) (Nat.le_of_ble_eq_true rfl) rfl).trans ?_
  refine (r_il (dk D162 43 rfl) rfl).trans ?_
  refine (r_il (dk D162 44 rfl) rfl).trans ?_
  refine (r_le (dk D162 45 rfl) rfl).trans (ite2 ?_ ?_)
  · refine (r_inc (L' := [.ref 1, .int l1, .int l2, .int l3, .int l4, .int l5, .int l6, .int (l7 + 1), .int s0]) (dk D162 50 rfl) rfl rfl ci1 (Nat.le_of_ble_eq_true rfl) rfl).trans ?_
    refine (r_goto (L' := [.ref 1, .int l1, .int l2, .int l3, .int l4, .int l5, .int l6, .int (l7 + 1), .retAddr 0]) (dk D162 51 rfl) rfl nd162_58 rfl).trans ?_
    exact rfl
  · refine (r_il (dk D162 46 rfl) rfl).trans ?_
    refine (r_is (L' := [.ref 1, .int l1, .int l2, .int l3, .int l4, .int l5, .int s0, .int l7, .int s0]) (dk D162 47 rfl) (Nat.le_of_ble_eq_true rfl) rfl).trans ?_
    refine (r_il (dk D162 48 rfl) rfl).trans ?_
    refine (r_is (L' := [.ref 1, .int l1, .int l2, .int l3, .int l4, .int l7, .int s0, .int l7, .int s0]) (dk D162 49 rfl) (Nat.le_of_ble_eq_true rfl) rfl).trans ?_
    refine (r_inc (L' := [.ref 1, .int l1, .int l2, .int l3, .int l4, .int l7, .int s0, .int (l7 + 1), .int s0]) (dk D162 50 rfl) rfl rfl ci1 (Nat.le_of_ble_eq_true rfl) rfl).trans ?_
    refine (r_goto (L' := [.ref 1, .int l1, .int l2, .int l3, .int l4, .int l7, .int s0, .int (l7 + 1), .retAddr 0]) (dk D162 51 rfl) rfl nd162_58 rfl).trans ?_
    exact rfl
theorem E162_113 {d sl : Nat} {p : Nat → Nat} {I : Nat → Nat → Int32} {J : Nat → Nat → Int64} (l1 : Int32) (l2 : Int32) (l3 : Int32) (l4 : Int32) (l5 : Int32) (l6 : Int32) (l7 : Int32) (s0 : Int32)  : ev (d + 1) 162 113 [.ref 1, .int l1, .int l2, .int l3, .int l4, .int l5, .int l6, .int l7, .retAddr 0] [.int s0, .ref 1] (S sl p I J) = evK (d + 1) 162 116 [.ref 1, .int l1, .int l2, .int l3, .int l4, .int l5, .int l6, .int l7, .retAddr 0] [] (den d 163 [.ref 1, .int s0] (S sl p I J)) := by
  exact r_cv (dk D162 58 rfl) ow162 c11_92 mf163 (Nat.le_of_ble_eq_true rfl) rfl rfl (Nat.le_of_ble_eq_true rfl) (Nat.le_of_ble_eq_true rfl) ob_1
theorem E162_116 {d sl : Nat} {p : Nat → Nat} {I : Nat → Nat → Int32} {J : Nat → Nat → Int64} (l1 : Int32) (l2 : Int32) (l3 : Int32) (l4 : Int32) (l5 : Int32) (l6 : Int32) (l7 : Int32) (s0 : Int32)  : ev d 162 116 [.ref 1, .int l1, .int l2, .int l3, .int l4, .int l5, .int l6, .int l7, .retAddr 0] [.int s0] (S sl p I J) = some (some (.int s0), (S sl p I J)) := by
  exact r_ret (dk D162 59 rfl) rt162
set_option maxRecDepth 20000 in
theorem D163 : dOK 163 [(0, .aload_n 0, 1), (1, .iconst 0, 1), (2, .putfield 73, 3), (5, .iload_n 1, 1), (6, .ireturn, 1)] = true := by decide +kernel
theorem E163_0 {d sl : Nat} {p : Nat → Nat} {I : Nat → Nat → Int32} {J : Nat → Nat → Int64} (a1 : Int32)  : den d 163 [.ref 1, .int a1] (S sl p I J) = some (some (.int a1), (S sl p (up2 I 1 8 0) J)) := by
  refine (show den d 163 [.ref 1, .int a1] (S sl p I J) = ev d 163 0 [.ref 1, .int a1] [] (S sl p I J) from rfl).trans ?_
  refine (r_aln (dk D163 0 rfl) rfl).trans ?_
  refine (r_ic (dk D163 1 rfl) ci0).trans ?_
  refine (r_putI (dk D163 2 rfl) ow163 w11_73 ob_1).trans ?_
  refine (r_iln (dk D163 3 rfl) rfl).trans ?_
  exact r_ret (dk D163 4 rfl) rt163
set_option maxRecDepth 20000 in
theorem D164 : dOK 164 [(0, .aload_n 0, 1), (1, .iload_n 1, 1), (2, .putfield 73, 3), (5, .iconst (-1), 1), (6, .ireturn, 1)] = true := by decide +kernel
theorem E164_0 {d sl : Nat} {p : Nat → Nat} {I : Nat → Nat → Int32} {J : Nat → Nat → Int64} (a1 : Int32)  : den d 164 [.ref 1, .int a1] (S sl p I J) = some (some (.int (-1)), (S sl p (up2 I 1 8 a1) J)) := by
  refine (show den d 164 [.ref 1, .int a1] (S sl p I J) = ev d 164 0 [.ref 1, .int a1] [] (S sl p I J) from rfl).trans ?_
  refine (r_aln (dk D164 0 rfl) rfl).trans ?_
  refine (r_iln (dk D164 1 rfl) rfl).trans ?_
  refine (r_putI (dk D164 2 rfl) ow164 w11_73 ob_1).trans ?_
  refine (r_ic (dk D164 3 rfl) cim1).trans ?_
  exact r_ret (dk D164 4 rfl) rt164
set_option maxRecDepth 20000 in
theorem D165 : dOK 165 [(0, .iload_n 1, 1), (1, .ifCond .ge 11, 3), (4, .aload_n 0, 1), (5, .iconst 5, 1), (6, .invokevirtual 81, 3), (9, .goto 8, 3), (12, .aload_n 0, 1), (13, .iload_n 1, 1), (14, .invokevirtual 92, 3), (17, .ireturn, 1)] = true := by decide +kernel
theorem E165_0 {d sl : Nat} {p : Nat → Nat} {I : Nat → Nat → Int32} {J : Nat → Nat → Int64} (a1 : Int32)  : den (d + 1) 165 [.ref 1, .int a1] (S sl p I J) = (if a1 < 0 then evK (d + 1) 165 9 [.ref 1, .int a1] [] (den d 164 [.ref 1, .int 5] (S sl p I J)) else evK (d + 1) 165 17 [.ref 1, .int a1] [] (den d 163 [.ref 1, .int a1] (S sl p I J))) := by
  refine (show den (d + 1) 165 [.ref 1, .int a1] (S sl p I J) = ev (d + 1) 165 0 [.ref 1, .int a1] [] (S sl p I J) from rfl).trans ?_
  refine (r_iln (dk D165 0 rfl) rfl).trans ?_
  refine (r_ge0 (dk D165 1 rfl) rfl).trans (ite2 ?_ ?_)
  · refine (r_aln (dk D165 2 rfl) rfl).trans ?_
    refine (r_ic (dk D165 3 rfl) ci5).trans ?_
    exact r_cv (dk D165 4 rfl) ow165 c11_81 mf164 (Nat.le_of_ble_eq_true rfl) rfl rfl (Nat.le_of_ble_eq_true rfl) (Nat.le_of_ble_eq_true rfl) ob_1
  · refine (r_aln (dk D165 6 rfl) rfl).trans ?_
    refine (r_iln (dk D165 7 rfl) rfl).trans ?_
    exact r_cv (dk D165 8 rfl) ow165 c11_92 mf163 (Nat.le_of_ble_eq_true rfl) rfl rfl (Nat.le_of_ble_eq_true rfl) (Nat.le_of_ble_eq_true rfl) ob_1
theorem E165_9 {d sl : Nat} {p : Nat → Nat} {I : Nat → Nat → Int32} {J : Nat → Nat → Int64} (l1 : Int32) (s0 : Int32)  : ev d 165 9 [.ref 1, .int l1] [.int s0] (S sl p I J) = some (some (.int s0), (S sl p I J)) := by
  refine (r_goto (L' := [.ref 1, .int l1]) (dk D165 5 rfl) rfl nd165_17 rfl).trans ?_
  exact r_ret (dk D165 9 rfl) rt165
theorem E165_17 {d sl : Nat} {p : Nat → Nat} {I : Nat → Nat → Int32} {J : Nat → Nat → Int64} (l1 : Int32) (s0 : Int32)  : ev d 165 17 [.ref 1, .int l1] [.int s0] (S sl p I J) = some (some (.int s0), (S sl p I J)) := by
  exact r_ret (dk D165 9 rfl) rt165
set_option maxRecDepth 20000 in
theorem D166 : dOK 166 [(0, .iload_n 1, 1), (1, .iload_n 2, 1), (2, .if_icmp .eq 29, 3), (5, .aload_n 0, 1), (6, .getfield 30, 3), (9, .iload_n 1, 1), (10, .invokevirtual 193, 3), (13, .ifCond .eq 18, 3), (16, .aload_n 0, 1), (17, .getfield 30, 3), (20, .iload_n 2, 1), (21, .invokevirtual 193, 3), (24, .ifCond .eq 7, 3), (27, .iconst 1, 1), (28, .goto 4, 3), (31, .iconst 0, 1), (32, .ireturn, 1)] = true := by decide +kernel
theorem E166_0 {d sl : Nat} {p : Nat → Nat} {I : Nat → Nat → Int32} {J : Nat → Nat → Int64} (a1 : Int32) (a2 : Int32)  : den (d + 1) 166 [.ref 1, .int a1, .int a2] (S sl p I J) = (if a1 = a2 then some (some (.int 0), (S sl p I J)) else evK (d + 1) 166 13 [.ref 1, .int a1, .int a2] [] (den d 100 [.ref 11, .int a1] (S sl p I J))) := by
  refine (show den (d + 1) 166 [.ref 1, .int a1, .int a2] (S sl p I J) = ev (d + 1) 166 0 [.ref 1, .int a1, .int a2] [] (S sl p I J) from rfl).trans ?_
  refine (r_iln (dk D166 0 rfl) rfl).trans ?_
  refine (r_iln (dk D166 1 rfl) rfl).trans ?_
  refine (r_eq (dk D166 2 rfl) rfl).trans (ite2 ?_ ?_)
  · refine (r_ic (dk D166 15 rfl) ci0).trans ?_
    exact r_rez (dk D166 16 rfl) rt166 (by decide)
  · refine (r_aln (dk D166 3 rfl) rfl).trans ?_
    refine (r_getR (dk D166 4 rfl) ow166 q11_30 ob_1 rfl).trans ?_
    refine (r_iln (dk D166 5 rfl) rfl).trans ?_
    exact r_cv (dk D166 6 rfl) ow166 c11_193 mf100 (Nat.le_of_ble_eq_true rfl) rfl rfl (Nat.le_of_ble_eq_true rfl) (Nat.le_of_ble_eq_true rfl) ob_11
theorem E166_13 {d sl : Nat} {p : Nat → Nat} {I : Nat → Nat → Int32} {J : Nat → Nat → Int64} (l1 : Int32) (l2 : Int32) (s0 : Int32)  : ev (d + 1) 166 13 [.ref 1, .int l1, .int l2] [.int s0] (S sl p I J) = (if s0 = 0 then some (some (.int 0), (S sl p I J)) else evK (d + 1) 166 24 [.ref 1, .int l1, .int l2] [] (den d 100 [.ref 11, .int l2] (S sl p I J))) := by
  refine (r_eq0 (dk D166 7 rfl) rfl).trans (ite2 ?_ ?_)
  · refine (r_ic (dk D166 15 rfl) ci0).trans ?_
    exact r_rez (dk D166 16 rfl) rt166 (by decide)
  · refine (r_aln (dk D166 8 rfl) rfl).trans ?_
    refine (r_getR (dk D166 9 rfl) ow166 q11_30 ob_1 rfl).trans ?_
    refine (r_iln (dk D166 10 rfl) rfl).trans ?_
    exact r_cv (dk D166 11 rfl) ow166 c11_193 mf100 (Nat.le_of_ble_eq_true rfl) rfl rfl (Nat.le_of_ble_eq_true rfl) (Nat.le_of_ble_eq_true rfl) ob_11
theorem E166_24 {d sl : Nat} {p : Nat → Nat} {I : Nat → Nat → Int32} {J : Nat → Nat → Int64} (l1 : Int32) (l2 : Int32) (s0 : Int32)  : ev d 166 24 [.ref 1, .int l1, .int l2] [.int s0] (S sl p I J) = (if s0 = 0 then some (some (.int 0), (S sl p I J)) else some (some (.int 1), (S sl p I J))) := by
  refine (r_eq0 (dk D166 12 rfl) rfl).trans (ite2 ?_ ?_)
  · refine (r_ic (dk D166 15 rfl) ci0).trans ?_
    exact r_rez (dk D166 16 rfl) rt166 (by decide)
  · refine (r_ic (dk D166 13 rfl) ci1).trans ?_
    refine (r_goto (L' := [.ref 1, .int l1, .int l2]) (dk D166 14 rfl) rfl nd166_32 rfl).trans ?_
    exact r_rez (dk D166 16 rfl) rt166 (by decide)
set_option maxRecDepth 20000 in
theorem D167 : dOK 167 [(0, .iload_n 0, 1), (1, .iload_n 1, 1), (2, .if_icmp .lt 12, 3), (5, .iload_n 0, 1), (6, .iload_n 2, 1), (7, .if_icmp .gt 7, 3), (10, .iconst 1, 1), (11, .goto 4, 3), (14, .iconst 0, 1), (15, .ireturn, 1)] = true := by decide +kernel
theorem E167_0 {d sl : Nat} {p : Nat → Nat} {I : Nat → Nat → Int32} {J : Nat → Nat → Int64} (a0 : Int32) (a1 : Int32) (a2 : Int32)  : den d 167 [.int a0, .int a1, .int a2] (S sl p I J) = (if a0 < a1 then some (some (.int 0), (S sl p I J)) else (if a0 ≤ a2 then some (some (.int 1), (S sl p I J)) else some (some (.int 0), (S sl p I J)))) := by
  refine (show den d 167 [.int a0, .int a1, .int a2] (S sl p I J) = ev d 167 0 [.int a0, .int a1, .int a2] [] (S sl p I J) from rfl).trans ?_
  refine (r_iln (dk D167 0 rfl) rfl).trans ?_
  refine (r_iln (dk D167 1 rfl) rfl).trans ?_
  refine (r_lt (dk D167 2 rfl) rfl).trans (ite2 ?_ ?_)
  · refine (r_ic (dk D167 8 rfl) ci0).trans ?_
    exact r_rez (dk D167 9 rfl) rt167 (by decide)
  · refine (r_iln (dk D167 3 rfl) rfl).trans ?_
    refine (r_iln (dk D167 4 rfl) rfl).trans ?_
    refine (r_gt (dk D167 5 rfl) rfl).trans (ite2 ?_ ?_)
    · refine (r_ic (dk D167 6 rfl) ci1).trans ?_
      refine (r_goto (L' := [.int a0, .int a1, .int a2]) (dk D167 7 rfl) rfl nd167_15 rfl).trans ?_
      exact r_rez (dk D167 9 rfl) rt167 (by decide)
    · refine (r_ic (dk D167 8 rfl) ci0).trans ?_
      exact r_rez (dk D167 9 rfl) rt167 (by decide)
set_option maxRecDepth 20000 in
theorem D168 : dOK 168 [(0, .iload_n 0, 1), (1, .iconst 0, 1), (2, .sipush 359, 3), (5, .invokestatic 121, 3), (8, .ifCond .eq 17, 3), (11, .iload_n 1, 1), (12, .iconst 0, 1), (13, .bipush 90, 2), (15, .invokestatic 121, 3), (18, .ifCond .eq 7, 3), (21, .iconst 1, 1), (22, .goto 4, 3), (25, .iconst 0, 1), (26, .ireturn, 1)] = true := by decide +kernel
theorem E168_0 {d sl : Nat} {p : Nat → Nat} {I : Nat → Nat → Int32} {J : Nat → Nat → Int64} (a0 : Int32) (a1 : Int32)  : den (d + 1) 168 [.int a0, .int a1] (S sl p I J) = evK (d + 1) 168 8 [.int a0, .int a1] [] (den d 167 [.int a0, .int 0, .int 359] (S sl p I J)) := by
  refine (show den (d + 1) 168 [.int a0, .int a1] (S sl p I J) = ev (d + 1) 168 0 [.int a0, .int a1] [] (S sl p I J) from rfl).trans ?_
  refine (r_iln (dk D168 0 rfl) rfl).trans ?_
  refine (r_ic (dk D168 1 rfl) ci0).trans ?_
  refine (r_sp (dk D168 2 rfl) cs359).trans ?_
  exact r_cs (dk D168 3 rfl) ow168 pn11_121 c11_121 mf167 (Nat.le_of_ble_eq_true rfl) rfl rfl (Nat.le_of_ble_eq_true rfl) (Nat.le_of_ble_eq_true rfl)
theorem E168_8 {d sl : Nat} {p : Nat → Nat} {I : Nat → Nat → Int32} {J : Nat → Nat → Int64} (l0 : Int32) (l1 : Int32) (s0 : Int32)  : ev (d + 1) 168 8 [.int l0, .int l1] [.int s0] (S sl p I J) = (if s0 = 0 then some (some (.int 0), (S sl p I J)) else evK (d + 1) 168 18 [.int l0, .int l1] [] (den d 167 [.int l1, .int 0, .int 90] (S sl p I J))) := by
  refine (r_eq0 (dk D168 4 rfl) rfl).trans (ite2 ?_ ?_)
  · refine (r_ic (dk D168 12 rfl) ci0).trans ?_
    exact r_rez (dk D168 13 rfl) rt168 (by decide)
  · refine (r_iln (dk D168 5 rfl) rfl).trans ?_
    refine (r_ic (dk D168 6 rfl) ci0).trans ?_
    refine (r_bp (dk D168 7 rfl) cb90).trans ?_
    exact r_cs (dk D168 8 rfl) ow168 pn11_121 c11_121 mf167 (Nat.le_of_ble_eq_true rfl) rfl rfl (Nat.le_of_ble_eq_true rfl) (Nat.le_of_ble_eq_true rfl)
theorem E168_18 {d sl : Nat} {p : Nat → Nat} {I : Nat → Nat → Int32} {J : Nat → Nat → Int64} (l0 : Int32) (l1 : Int32) (s0 : Int32)  : ev d 168 18 [.int l0, .int l1] [.int s0] (S sl p I J) = (if s0 = 0 then some (some (.int 0), (S sl p I J)) else some (some (.int 1), (S sl p I J))) := by
  refine (r_eq0 (dk D168 9 rfl) rfl).trans (ite2 ?_ ?_)
  · refine (r_ic (dk D168 12 rfl) ci0).trans ?_
    exact r_rez (dk D168 13 rfl) rt168 (by decide)
  · refine (r_ic (dk D168 10 rfl) ci1).trans ?_
    refine (r_goto (L' := [.int l0, .int l1]) (dk D168 11 rfl) rfl nd168_26 rfl).trans ?_
    exact r_rez (dk D168 13 rfl) rt168 (by decide)
set_option maxRecDepth 20000 in
theorem D169 : dOK 169 [(0, .iload_n 0, 1), (1, .iconst 0, 1), (2, .sipush 359, 3), (5, .invokestatic 121, 3), (8, .ifCond .eq 28, 3), (11, .iload_n 1, 1), (12, .iconst 0, 1), (13, .bipush 90, 2), (15, .invokestatic 121, 3), (18, .ifCond .eq 18, 3), (21, .iload_n 2, 1), (22, .iconst 1, 1), (23, .ldc_w 352, 3), (26, .invokestatic 121, 3), (29, .ifCond .eq 7, 3), (32, .iconst 1, 1), (33, .goto 4, 3), (36, .iconst 0, 1), (37, .ireturn, 1)] = true := by decide +kernel
theorem E169_0 {d sl : Nat} {p : Nat → Nat} {I : Nat → Nat → Int32} {J : Nat → Nat → Int64} (a0 : Int32) (a1 : Int32) (a2 : Int32)  : den (d + 1) 169 [.int a0, .int a1, .int a2] (S sl p I J) = evK (d + 1) 169 8 [.int a0, .int a1, .int a2] [] (den d 167 [.int a0, .int 0, .int 359] (S sl p I J)) := by
  refine (show den (d + 1) 169 [.int a0, .int a1, .int a2] (S sl p I J) = ev (d + 1) 169 0 [.int a0, .int a1, .int a2] [] (S sl p I J) from rfl).trans ?_
  refine (r_iln (dk D169 0 rfl) rfl).trans ?_
  refine (r_ic (dk D169 1 rfl) ci0).trans ?_
  refine (r_sp (dk D169 2 rfl) cs359).trans ?_
  exact r_cs (dk D169 3 rfl) ow169 pn11_121 c11_121 mf167 (Nat.le_of_ble_eq_true rfl) rfl rfl (Nat.le_of_ble_eq_true rfl) (Nat.le_of_ble_eq_true rfl)
theorem E169_8 {d sl : Nat} {p : Nat → Nat} {I : Nat → Nat → Int32} {J : Nat → Nat → Int64} (l0 : Int32) (l1 : Int32) (l2 : Int32) (s0 : Int32)  : ev (d + 1) 169 8 [.int l0, .int l1, .int l2] [.int s0] (S sl p I J) = (if s0 = 0 then some (some (.int 0), (S sl p I J)) else evK (d + 1) 169 18 [.int l0, .int l1, .int l2] [] (den d 167 [.int l1, .int 0, .int 90] (S sl p I J))) := by
  refine (r_eq0 (dk D169 4 rfl) rfl).trans (ite2 ?_ ?_)
  · refine (r_ic (dk D169 17 rfl) ci0).trans ?_
    exact r_rez (dk D169 18 rfl) rt169 (by decide)
  · refine (r_iln (dk D169 5 rfl) rfl).trans ?_
    refine (r_ic (dk D169 6 rfl) ci0).trans ?_
    refine (r_bp (dk D169 7 rfl) cb90).trans ?_
    exact r_cs (dk D169 8 rfl) ow169 pn11_121 c11_121 mf167 (Nat.le_of_ble_eq_true rfl) rfl rfl (Nat.le_of_ble_eq_true rfl) (Nat.le_of_ble_eq_true rfl)
theorem E169_18 {d sl : Nat} {p : Nat → Nat} {I : Nat → Nat → Int32} {J : Nat → Nat → Int64} (l0 : Int32) (l1 : Int32) (l2 : Int32) (s0 : Int32)  : ev (d + 1) 169 18 [.int l0, .int l1, .int l2] [.int s0] (S sl p I J) = (if s0 = 0 then some (some (.int 0), (S sl p I J)) else evK (d + 1) 169 29 [.int l0, .int l1, .int l2] [] (den d 167 [.int l2, .int 1, .int 100000] (S sl p I J))) := by
  refine (r_eq0 (dk D169 9 rfl) rfl).trans (ite2 ?_ ?_)
  · refine (r_ic (dk D169 17 rfl) ci0).trans ?_
    exact r_rez (dk D169 18 rfl) rt169 (by decide)
  · refine (r_iln (dk D169 10 rfl) rfl).trans ?_
    refine (r_ic (dk D169 11 rfl) ci1).trans ?_
    refine (r_ldcw (dk D169 12 rfl) ow169 k11_352).trans ?_
    exact r_cs (dk D169 13 rfl) ow169 pn11_121 c11_121 mf167 (Nat.le_of_ble_eq_true rfl) rfl rfl (Nat.le_of_ble_eq_true rfl) (Nat.le_of_ble_eq_true rfl)
theorem E169_29 {d sl : Nat} {p : Nat → Nat} {I : Nat → Nat → Int32} {J : Nat → Nat → Int64} (l0 : Int32) (l1 : Int32) (l2 : Int32) (s0 : Int32)  : ev d 169 29 [.int l0, .int l1, .int l2] [.int s0] (S sl p I J) = (if s0 = 0 then some (some (.int 0), (S sl p I J)) else some (some (.int 1), (S sl p I J))) := by
  refine (r_eq0 (dk D169 14 rfl) rfl).trans (ite2 ?_ ?_)
  · refine (r_ic (dk D169 17 rfl) ci0).trans ?_
    exact r_rez (dk D169 18 rfl) rt169 (by decide)
  · refine (r_ic (dk D169 15 rfl) ci1).trans ?_
    refine (r_goto (L' := [.int l0, .int l1, .int l2]) (dk D169 16 rfl) rfl nd169_37 rfl).trans ?_
    exact r_rez (dk D169 18 rfl) rt169 (by decide)
set_option maxRecDepth 20000 in
theorem D170 : dOK 170 [(0, .lload_n 2, 1), (1, .lconst 0, 1), (2, .lcmp, 1), (3, .ifCond .ne 7, 3), (6, .lconst 0, 1), (7, .goto 6, 3), (10, .lload_n 0, 1), (11, .lload_n 2, 1), (12, .ldiv, 1), (13, .lreturn, 1)] = true := by decide +kernel
theorem E170_0 {d sl : Nat} {p : Nat → Nat} {I : Nat → Nat → Int32} {J : Nat → Nat → Int64} (a0 : Int64) (a1 : Int64)  : den d 170 [.long a0, .long a1] (S sl p I J) = (if a1 = 0 then some (some (.long 0), (S sl p I J)) else ck (!decide (a1 = 0)) (some (some (.long (a0 / a1)), (S sl p I J)))) := by
  refine (show den d 170 [.long a0, .long a1] (S sl p I J) = ev d 170 0 [.long a0, .retAddr 0, .long a1, .retAddr 0] [] (S sl p I J) from rfl).trans ?_
  refine (r_lln (dk D170 0 rfl) rfl).trans ?_
  refine (r_lc (dk D170 1 rfl) cl0).trans ?_
  refine (r_jne (dk D170 2 rfl) (dk D170 3 rfl) rfl).trans (ite2 ?_ ?_)
  · refine (r_lc (dk D170 4 rfl) cl0).trans ?_
    refine (r_goto (L' := [.long a0, .retAddr 0, .long a1, .retAddr 0]) (dk D170 5 rfl) rfl nd170_13 rfl).trans ?_
    exact r_rel (dk D170 9 rfl) rt170
  · refine (r_lln (dk D170 6 rfl) rfl).trans ?_
    refine (r_lln (dk D170 7 rfl) rfl).trans ?_
    refine (r_ldivc (dk D170 8 rfl)).trans (ck3 fun g1 => ?_)
    exact r_rel (dk D170 9 rfl) rt170
set_option maxRecDepth 20000 in
theorem D171 : dOK 171 [(0, .lconst 0, 1), (1, .lstore_n 2, 1), (2, .lload_n 0, 1), (3, .ldc2_w 417, 3), (6, .lcmp, 1), (7, .ifCond .ge 9, 3), (10, .ldc2_w 419, 3), (13, .goto 6, 3), (16, .ldc2_w 421, 3), (19, .lstore 4, 2), (21, .lload 4, 2), (23, .lconst 0, 1), (24, .lcmp, 1), (25, .ifCond .le 31, 3), (28, .lload_n 2, 1), (29, .lload 4, 2), (31, .ladd, 1), (32, .lstore 6, 2), (34, .lload 6, 2), (36, .lload 6, 2), (38, .lmul, 1), (39, .lload_n 0, 1), (40, .lcmp, 1), (41, .ifCond .gt 6, 3), (44, .lload 6, 2), (46, .lstore_n 2, 1), (47, .lload 4, 2), (49, .iconst 1, 1), (50, .lshr, 1), (51, .lstore 4, 2), (53, .goto (-32), 3), (56, .lload_n 2, 1), (57, .lreturn, 1)] = true := by decide +kernel
theorem E171_0 {d sl : Nat} {p : Nat → Nat} {I : Nat → Nat → Int32} {J : Nat → Nat → Int64} (a0 : Int64)  : den d 171 [.long a0] (S sl p I J) = (if a0 < 4294967296 then ev d 171 21 [.long a0, .retAddr 0, .long 0, .retAddr 0, .long 32768, .retAddr 0, .retAddr 0, .retAddr 0] [] (S sl p I J) else ev d 171 21 [.long a0, .retAddr 0, .long 0, .retAddr 0, .long 1073741824, .retAddr 0, .retAddr 0, .retAddr 0] [] (S sl p I J)) := by
  refine (show den d 171 [.long a0] (S sl p I J) = ev d 171 0 [.long a0, .retAddr 0, .retAddr 0, .retAddr 0, .retAddr 0, .retAddr 0, .retAddr 0, .retAddr 0] [] (S sl p I J) from rfl).trans ?_
  refine (r_lc (dk D171 0 rfl) cl0).trans ?_
  refine (r_lsn (L' := [.long a0, .retAddr 0, .long 0, .retAddr 0, .retAddr 0, .retAddr 0, .retAddr 0, .retAddr 0]) (dk D171 1 rfl) (Nat.le_of_ble_eq_true rfl) rfl).trans ?_
  refine (r_lln (dk D171 2 rfl) rfl).trans ?_
  refine (r_ld2 (dk D171 3 rfl) ow171 kk11_417).trans ?_
  refine (r_jge (dk D171 4 rfl) (dk D171 5 rfl) rfl).trans (ite2 ?_ ?_)
  · refine (r_ld2 (dk D171 6 rfl) ow171 kk11_419).trans ?_
    refine (r_goto (L' := [.long a0, .retAddr 0, .long 0, .retAddr 0, .retAddr 0, .retAddr 0, .retAddr 0, .retAddr 0]) (dk D171 7 rfl) rfl nd171_19 rfl).trans ?_
    refine (r_ls (L' := [.long a0, .retAddr 0, .long 0, .retAddr 0, .long 32768, .retAddr 0, .retAddr 0, .retAddr 0]) (dk D171 9 rfl) (Nat.le_of_ble_eq_true rfl) rfl).trans ?_
    exact rfl
  · refine (r_ld2 (dk D171 8 rfl) ow171 kk11_421).trans ?_
    refine (r_ls (L' := [.long a0, .retAddr 0, .long 0, .retAddr 0, .long 1073741824, .retAddr 0, .retAddr 0, .retAddr 0]) (dk D171 9 rfl) (Nat.le_of_ble_eq_true rfl) rfl).trans ?_
    exact rfl
theorem E171_21 {d sl : Nat} {p : Nat → Nat} {I : Nat → Nat → Int32} {J : Nat → Nat → Int64} (l0 : Int64) (l2 : Int64) (l4 : Int64)  : ev d 171 21 [.long l0, .retAddr 0, .long l2, .retAddr 0, .long l4, .retAddr 0, .retAddr 0, .retAddr 0] [] (S sl p I J) = (if l4 ≤ 0 then some (some (.long l2), (S sl p I J)) else (if ((l2 + l4) * (l2 + l4)) ≤ l0 then ev d 171 21 [.long l0, .retAddr 0, .long (l2 + l4), .retAddr 0, .long (l4 >>> (Int32.toInt64 1 &&& 63)), .retAddr 0, .retAddr 0, .retAddr 0] [] (S sl p I J) else ev d 171 21 [.long l0, .retAddr 0, .long l2, .retAddr 0, .long (l4 >>> (Int32.toInt64 1 &&& 63)), .retAddr 0, .retAddr 0, .retAddr 0] [] (S sl p I J))) := by
  refine (r_ll (dk D171 10 rfl) rfl).trans ?_
  refine (r_lc (dk D171 11 rfl) cl0).trans ?_
  refine (r_jle (dk D171 12 rfl) (dk D171 13 rfl) rfl).trans (ite2 ?_ ?_)
  · refine (r_lln (dk D171 31 rfl) rfl).trans ?_
    exact r_rel (dk D171 32 rfl) rt171
  · refine (r_lln (dk D171 14 rfl) rfl).trans ?_
    refine (r_ll (dk D171 15 rfl) rfl).trans ?_
    refine (r_ladd (dk D171 16 rfl)).trans ?_
    refine (r_ls (L' := [.long l0, .retAddr 0, .long l2, .retAddr 0, .long l4, .retAddr 0, .long (l2 + l4), .retAddr 0]) (dk D171 17 rfl) (Nat.le_of_ble_eq_true rfl) rfl).trans ?_
    refine (r_ll (dk D171 18 rfl) rfl).trans ?_
    refine (r_ll (dk D171 19 rfl) rfl).trans ?_
    refine (r_lmul (dk D171 20 rfl)).trans ?_
    refine (r_lln (dk D171 21 rfl) rfl).trans ?_
    refine (r_jgt (dk D171 22 rfl) (dk D171 23 rfl) rfl).trans (ite2 ?_ ?_)
    · refine (r_ll (dk D171 24 rfl) rfl).trans ?_
      refine (r_lsn (L' := [.long l0, .retAddr 0, .long (l2 + l4), .retAddr 0, .long l4, .retAddr 0, .long (l2 + l4), .retAddr 0]) (dk D171 25 rfl) (Nat.le_of_ble_eq_true rfl) rfl).trans ?_
      refine (r_ll (dk D171 26 rfl) rfl).trans ?_
      refine (r_ic (dk D171 27 rfl) ci1).trans ?_
      refine (r_lshr (dk D171 28 rfl)).trans ?_
      refine (r_ls (L' := [.long l0, .retAddr 0, .long (l2 + l4), .retAddr 0, .long (l4 >>> (Int32.toInt64 1 &&& 63)), .retAddr 0, .long (l2 + l4), .retAddr 0]) (dk D171 29 rfl) (Nat.le_of_ble_eq_true rfl) rfl).trans ?_
      refine (r_goto (L' := [.long l0, .retAddr 0, .long (l2 + l4), .retAddr 0, .long (l4 >>> (Int32.toInt64 1 &&& 63)), .retAddr 0, .retAddr 0, .retAddr 0]) (dk D171 30 rfl) rfl nd171_21 rfl).trans ?_
      exact rfl
    · refine (r_ll (dk D171 26 rfl) rfl).trans ?_
      refine (r_ic (dk D171 27 rfl) ci1).trans ?_
      refine (r_lshr (dk D171 28 rfl)).trans ?_
      refine (r_ls (L' := [.long l0, .retAddr 0, .long l2, .retAddr 0, .long (l4 >>> (Int32.toInt64 1 &&& 63)), .retAddr 0, .long (l2 + l4), .retAddr 0]) (dk D171 29 rfl) (Nat.le_of_ble_eq_true rfl) rfl).trans ?_
      refine (r_goto (L' := [.long l0, .retAddr 0, .long l2, .retAddr 0, .long (l4 >>> (Int32.toInt64 1 &&& 63)), .retAddr 0, .retAddr 0, .retAddr 0]) (dk D171 30 rfl) rfl nd171_21 rfl).trans ?_
      exact rfl
set_option maxRecDepth 20000 in
theorem D172 : dOK 172 [(0, .aload_n 0, 1), (1, .aload_n 1, 1), (2, .invokevirtual 357, 3), (5, .lstore_n 2, 1), (6, .ldc2_w 423, 3), (9, .lload_n 2, 1), (10, .lmul, 1), (11, .lload_n 2, 1), (12, .lmul, 1), (13, .aload_n 0, 1), (14, .invokevirtual 425, 3), (17, .aload_n 1, 1), (18, .invokevirtual 425, 3), (21, .lmul, 1), (22, .invokestatic 348, 3), (25, .invokestatic 428, 3), (28, .lreturn, 1)] = true := by decide +kernel
theorem E172_0 {d sl : Nat} {p : Nat → Nat} {I : Nat → Nat → Int32} {J : Nat → Nat → Int64} {a0 : Nat} {a1 : Nat} (h0 : ob a0 0) (h1 : ob a1 0) : den (d + 1) 172 [.ref a0, .ref a1] (S sl p I J) = evK (d + 1) 172 5 [.ref a0, .ref a1, .retAddr 0, .retAddr 0] [] (den d 4 [.ref a0, .ref a1] (S sl p I J)) := by
  refine (show den (d + 1) 172 [.ref a0, .ref a1] (S sl p I J) = ev (d + 1) 172 0 [.ref a0, .ref a1, .retAddr 0, .retAddr 0] [] (S sl p I J) from rfl).trans ?_
  refine (r_aln (dk D172 0 rfl) rfl).trans ?_
  refine (r_aln (dk D172 1 rfl) rfl).trans ?_
  exact r_cv (dk D172 2 rfl) ow172 c11_357 mf4 (Nat.le_of_ble_eq_true rfl) rfl rfl (Nat.le_of_ble_eq_true rfl) (Nat.le_of_ble_eq_true rfl) h0
theorem E172_5 {d sl : Nat} {p : Nat → Nat} {I : Nat → Nat → Int32} {J : Nat → Nat → Int64} {l0 : Nat} {l1 : Nat} (s0 : Int64) (hl0 : ob l0 0) (hl1 : ob l1 0) : ev (d + 1) 172 5 [.ref l0, .ref l1, .retAddr 0, .retAddr 0] [.long s0] (S sl p I J) = evK (d + 1) 172 17 [.ref l0, .ref l1, .long s0, .retAddr 0] [.long ((1000000 * s0) * s0)] (den d 5 [.ref l0] (S sl p I J)) := by
  refine (r_lsn (L' := [.ref l0, .ref l1, .long s0, .retAddr 0]) (dk D172 3 rfl) (Nat.le_of_ble_eq_true rfl) rfl).trans ?_
  refine (r_ld2 (dk D172 4 rfl) ow172 kk11_423).trans ?_
  refine (r_lln (dk D172 5 rfl) rfl).trans ?_
  refine (r_lmul (dk D172 6 rfl)).trans ?_
  refine (r_lln (dk D172 7 rfl) rfl).trans ?_
  refine (r_lmul (dk D172 8 rfl)).trans ?_
  refine (r_aln (dk D172 9 rfl) rfl).trans ?_
  exact r_cv (dk D172 10 rfl) ow172 c11_425 mf5 (Nat.le_of_ble_eq_true rfl) rfl rfl (Nat.le_of_ble_eq_true rfl) (Nat.le_of_ble_eq_true rfl) hl0
theorem E172_17 {d sl : Nat} {p : Nat → Nat} {I : Nat → Nat → Int32} {J : Nat → Nat → Int64} {l0 : Nat} {l1 : Nat} (l2 : Int64) (s0 : Int64) (s1 : Int64) (hl0 : ob l0 0) (hl1 : ob l1 0) : ev (d + 1) 172 17 [.ref l0, .ref l1, .long l2, .retAddr 0] [.long s0, .long s1] (S sl p I J) = evK (d + 1) 172 21 [.ref l0, .ref l1, .long l2, .retAddr 0] [.long s0, .long s1] (den d 5 [.ref l1] (S sl p I J)) := by
  refine (r_aln (dk D172 11 rfl) rfl).trans ?_
  exact r_cv (dk D172 12 rfl) ow172 c11_425 mf5 (Nat.le_of_ble_eq_true rfl) rfl rfl (Nat.le_of_ble_eq_true rfl) (Nat.le_of_ble_eq_true rfl) hl1
theorem E172_21 {d sl : Nat} {p : Nat → Nat} {I : Nat → Nat → Int32} {J : Nat → Nat → Int64} {l0 : Nat} {l1 : Nat} (l2 : Int64) (s0 : Int64) (s1 : Int64) (s2 : Int64) (hl0 : ob l0 0) (hl1 : ob l1 0) : ev (d + 1) 172 21 [.ref l0, .ref l1, .long l2, .retAddr 0] [.long s0, .long s1, .long s2] (S sl p I J) = evK (d + 1) 172 25 [.ref l0, .ref l1, .long l2, .retAddr 0] [] (den d 170 [.long s2, .long (s1 * s0)] (S sl p I J)) := by
  refine (r_lmul (dk D172 13 rfl)).trans ?_
  exact r_cs (dk D172 14 rfl) ow172 pn11_348 c11_348 mf170 (Nat.le_of_ble_eq_true rfl) rfl rfl (Nat.le_of_ble_eq_true rfl) (Nat.le_of_ble_eq_true rfl)
theorem E172_25 {d sl : Nat} {p : Nat → Nat} {I : Nat → Nat → Int32} {J : Nat → Nat → Int64} {l0 : Nat} {l1 : Nat} (l2 : Int64) (s0 : Int64) (hl0 : ob l0 0) (hl1 : ob l1 0) : ev (d + 1) 172 25 [.ref l0, .ref l1, .long l2, .retAddr 0] [.long s0] (S sl p I J) = evK (d + 1) 172 28 [.ref l0, .ref l1, .long l2, .retAddr 0] [] (den d 171 [.long s0] (S sl p I J)) := by
  exact r_cs (dk D172 15 rfl) ow172 pn11_428 c11_428 mf171 (Nat.le_of_ble_eq_true rfl) rfl rfl (Nat.le_of_ble_eq_true rfl) (Nat.le_of_ble_eq_true rfl)
theorem E172_28 {d sl : Nat} {p : Nat → Nat} {I : Nat → Nat → Int32} {J : Nat → Nat → Int64} {l0 : Nat} {l1 : Nat} (l2 : Int64) (s0 : Int64) (hl0 : ob l0 0) (hl1 : ob l1 0) : ev d 172 28 [.ref l0, .ref l1, .long l2, .retAddr 0] [.long s0] (S sl p I J) = some (some (.long s0), (S sl p I J)) := by
  exact r_rel (dk D172 16 rfl) rt172
set_option maxRecDepth 20000 in
theorem D173 : dOK 173 [(0, .iload_n 1, 1), (1, .ifCond .ne 5, 3), (4, .iconst 0, 1), (5, .ireturn, 1), (6, .iload_n 1, 1), (7, .bipush 90, 2), (9, .if_icmp .ne 11, 3), (12, .iload_n 0, 1), (13, .sipush 180, 3), (16, .irem, 1), (17, .goto 4, 3), (20, .iload_n 0, 1), (21, .ireturn, 1)] = true := by decide +kernel
theorem E173_0 {d sl : Nat} {p : Nat → Nat} {I : Nat → Nat → Int32} {J : Nat → Nat → Int64} (a0 : Int32) (a1 : Int32)  : den d 173 [.int a0, .int a1] (S sl p I J) = (if a1 = 0 then some (some (.int 0), (S sl p I J)) else (if a1 = 90 then some (some (.int (a0 - a0 / 180 * 180)), (S sl p I J)) else some (some (.int a0), (S sl p I J)))) := by
  refine (show den d 173 [.int a0, .int a1] (S sl p I J) = ev d 173 0 [.int a0, .int a1] [] (S sl p I J) from rfl).trans ?_
  refine (r_iln (dk D173 0 rfl) rfl).trans ?_
  refine (r_ne0 (dk D173 1 rfl) rfl).trans (ite2 ?_ ?_)
  · refine (r_ic (dk D173 2 rfl) ci0).trans ?_
    exact r_ret (dk D173 3 rfl) rt173
  · refine (r_iln (dk D173 4 rfl) rfl).trans ?_
    refine (r_bp (dk D173 5 rfl) cb90).trans ?_
    refine (r_ne (dk D173 6 rfl) rfl).trans (ite2 ?_ ?_)
    · refine (r_iln (dk D173 7 rfl) rfl).trans ?_
      refine (r_sp (dk D173 8 rfl) cs180).trans ?_
      refine (r_irem (dk D173 9 rfl) (by decide)).trans ?_
      refine (r_goto (L' := [.int a0, .int a1]) (dk D173 10 rfl) rfl nd173_21 rfl).trans ?_
      exact r_ret (dk D173 12 rfl) rt173
    · refine (r_iln (dk D173 11 rfl) rfl).trans ?_
      exact r_ret (dk D173 12 rfl) rt173
set_option maxRecDepth 20000 in
theorem D174 : dOK 174 [(0, .bipush 100, 2), (2, .iload_n 0, 1), (3, .imul, 1), (4, .iload_n 1, 1), (5, .iadd, 1), (6, .ireturn, 1)] = true := by decide +kernel
theorem E174_0 {d sl : Nat} {p : Nat → Nat} {I : Nat → Nat → Int32} {J : Nat → Nat → Int64} (a0 : Int32) (a1 : Int32)  : den d 174 [.int a0, .int a1] (S sl p I J) = some (some (.int ((100 * a0) + a1)), (S sl p I J)) := by
  refine (show den d 174 [.int a0, .int a1] (S sl p I J) = ev d 174 0 [.int a0, .int a1] [] (S sl p I J) from rfl).trans ?_
  refine (r_bp (dk D174 0 rfl) cb100).trans ?_
  refine (r_iln (dk D174 1 rfl) rfl).trans ?_
  refine (r_imul (dk D174 2 rfl)).trans ?_
  refine (r_iln (dk D174 3 rfl) rfl).trans ?_
  refine (r_iadd (dk D174 4 rfl)).trans ?_
  exact r_ret (dk D174 5 rfl) rt174
