section AG7
variable {d sl : Nat} {p : Nat → Nat} {I I' : Nat → Nat → Int32} {J J' : Nat → Nat → Int64} {D : Nat → Nat → Int32} {e : Nat}
noncomputable def dgN (D : Nat → Nat → Int32) : Nat → Int32
  | 0 => 17
  | s + 1 => (dgN D s * 31 + llS D s) * 31 + nI (mem D (nI s))
theorem mnL_s {P : Nat → Bool} {f : Nat → Int32} {n : Nat} : mnL P f (n + 1) = if P n then (if f n < mnL P f n then f n else mnL P f n) else mnL P f n := rfl
theorem A_digest (hD : GD D) (hL : LabD D) : Agr (d + 40) sl p D e 136 252 [] := by
  have n60 := hD.n60
  have h30 := nst_30 hD hL
  refine ⟨.int (dgN D (nst D) * 31 + nI (mem D (-1))), 0, fun I J h => ?_, fun I J h => ?_⟩
  · obtain ⟨I', e1, e2, e3, e4⟩ := C_refresh (d := d + 36) (sl := sl) h
    refine QC.mk1 (I' := I') (J' := J) ?_ e2 e4
    obtain ⟨x, a1, a2⟩ := for_ex (M := Int32) (fun k x => ev (d + 39) 103 5 [.ref 11, .int x, .int k] [] (S sl p I' J)) (nst D) (fun k x => x = dgN D k)
      (by
        intro k x hk hx
        rw [E103_5, e3.sets, if_pos (lt_n hk (by omega)), ck_if (ixb_n (by omega) (by decide)), ck_if (ixb_n (by omega) (by decide)), cl_n (by omega), e3.gl k hk, e3.gsz k hk, nI_1, hx]
        exact ⟨_, rfl, rfl⟩)
      17 rfl
    rw [E136_0, e1, evK_v, E136_7, E103_0, a1, E103_5, e3.sets, if_neg (nlt_n (by omega)), C_strays e2.sv e3, evK_s, E103_57, evK_s, E136_15, E163_0, evK_s, E136_18, a2]
  · obtain ⟨I', e1, e2, e3, e4⟩ := M_sets (d := d + 32) (sl := sl) (p := p) (J := J) hD h
    refine QM.mk1 (I' := I') (J' := J) ?_ (e2.trans h.symm) e4
    obtain ⟨x, a1, a2⟩ := for_ex (M := Int32) (fun k x => ev (d + 40) 252 9 [.ref 46, .int x, .int k, .retAddr 0, .retAddr 0] [] (S sl p I' J)) (nst D) (fun k x => x = dgN D k)
      (by
        intro k x hk hx
        rw [E252_9, e3.e31, if_pos (lt_n hk (by omega))]
        obtain ⟨y, b1, b2⟩ := for_ex (M := Int32) (fun j y => ev (d + 40) 252 23 [.ref 46, .int x, .int (nI k), .int y, .int j] [] (S sl p I' J)) (nc D) (fun j y => y = mnL (fun i => decide (stn D i = nI k)) (lv D) j)
          (by
            intro j y hj hy
            rw [E252_23, d2 hD e2, if_pos (lt_n hj (by omega)), ck_if (ixb_n (by omega) (by decide)), cl_n (by omega), e3.e61 j hj, hy, nI_1]
            by_cases q : stn D j = nI k
            · rw [if_pos q, M_lie hD e2 hj, evK_s, E252_50, nI_1]
              exact ⟨_, rfl, by rw [mnL_s, if_pos (decide_eq_true q)]⟩
            · rw [if_neg q]
              exact ⟨_, rfl, by rw [mnL_s, if_neg (by simpa using q)]⟩)
          1000000 rfl
        rw [b1, E252_23, d2 hD e2, if_neg (nlt_n (by omega)), M_members hD e2 e3, evK_s, E252_80, nI_1, hx, b2]
        refine ⟨_, rfl, ?_⟩
        show 31 * (31 * dgN D k + llS D k) + nI (mem D (nI k)) = (dgN D k * 31 + llS D k) * 31 + nI (mem D (nI k))
        rw [Int32.mul_comm 31 (dgN D k), Int32.mul_comm 31]
      )
      17 rfl
    rw [E252_0, e1, evK_v, E252_4, a1, E252_9, e3.e31, if_neg (nlt_n (by omega)), M_members hD e2 e3, evK_s, E252_98, E179_0, evK_s, E252_102, a2, Int32.mul_comm 31]
theorem M_big (hD : GD D) (h : dat I = D) {an : Nat} {bt : Int32} (hg : GrpAt I D an bt) : den d 209 [.ref 46] (S sl p I J) = some (some (.int (nI (nbig D an bt))), S sl p I J) := by subst h; exact sp_bigGroups hD hg
theorem A_without (hD : GD D) (x : Int32) : Agr (d + 40) sl p D e 137 253 [.int x] := by
  have n60 := hD.n60
  have k45 := hD.k45
  by_cases hx : ∃ i, i < nc D ∧ x = nI i
  · obtain ⟨i, hi, rfl⟩ := hx
    refine ⟨.int (nI (nbig D (lk D) (nI i))), 0, fun I J h => ?_, fun I J h => ?_⟩
    · obtain ⟨l, z, q, e1⟩ := sp_countSets (d := d + 36) (sl := sl) h.sv (an := lk D) (bt := nI i) (by omega)
      refine QC.mk1 (I' := row (row (row I 15 l) 16 z) 18 q) (J' := J) ?_ (h.scr (fun a k w1 w2 w3 w4 => by rw [row_n (by omega), row_n (by omega), row_n (by omega)]) (fun _ _ _ => rfl) (fun _ _ _ _ => rfl)) ⟨fun a k w1 w2 => by rw [row_n (by omega), row_n (by omega), row_n (by omega)], fun _ _ _ _ => rfl⟩
      rw [E137_0, C_hasCrack h.sv, cr_y hD hi, evK_s, E137_8, if_neg (by decide), h.sv.link, e1, evK_s, E137_33, E163_0, evK_s, E137_36]
    · obtain ⟨I', e1, e2, e3, e4, -⟩ := M_groups (d := d + 33) (sl := sl) (p := p) (J := J) hD h (an := lk D) (bt := nI i) (by omega)
      refine QM.mk1 (I' := I') (J' := J) ?_ (e2.trans h.symm) e4
      rw [E253_0, M_isCrack hD h, cr_y hD hi, evK_s, E253_5, if_neg (by decide), d3 hD h, e1, evK_v, E253_23, M_big hD e2 e3, evK_s, E253_28, E179_0, evK_s, E253_31]
  · refine ⟨.int (-1), 2, fun I J h => QC.mk1 (I' := I) (J' := J) ?_ h Fc.refl, fun I J h => QM.mk1 (I' := I) (J' := J) ?_ rfl Fm.refl⟩
    · simp only [E137_0, E137_8, E137_16, E137_33, E137_36, C_hasCrack h.sv, cr_n hD hx, evK_s, evK_v, E163_0, E164_0, E178_0, E179_0, E180_0, sp_within, sp_isFrom, n10, eq_self, if_true, if_false]
    · simp only [E253_0, E253_5, E253_13, E253_23, E253_28, E253_31, M_isCrack hD h, cr_n hD hx, evK_s, evK_v, E163_0, E164_0, E178_0, E179_0, E180_0, sp_within, sp_isFrom, n10, eq_self, if_true, if_false]
theorem wj_y {a n s : Nat} (h0 : a ≤ s) (h : s ≤ n) (hn : n < 2 ^ 31) : (if nI s < nI a then (0 : Int32) else if nI s ≤ nI n then 1 else 0) = 1 := by rw [if_neg (fun w => by have := (nI_lt_iff (by omega) (by omega)).mp w; omega), if_pos ((nI_le_iff (by omega) hn).mpr h)]
theorem wj_n {x : Int32} {a n : Nat} (ha : a < 2 ^ 31) (hn : n < 2 ^ 31) (h : ¬ ∃ s, a ≤ s ∧ s ≤ n ∧ x = nI s) : (if x < nI a then (0 : Int32) else if x ≤ nI n then 1 else 0) = 0 := by
  by_cases q : x < nI a
  · rw [if_pos q]
  · rw [if_neg q, if_neg (fun w => ?_)]
    by_cases z : x < 0
    · refine q (Int32.lt_iff_toInt_lt.mpr ?_)
      have := Int32.lt_iff_toInt_lt.mp z
      rw [tI ha]
      have e0 : (0 : Int32).toInt = 0 := rfl
      omega
    · obtain ⟨s, hs, rfl⟩ := ex_nIle z w hn
      exact h ⟨s, Nat.le_of_not_lt fun w => q ((nI_lt_iff (by omega) ha).mpr w), hs, rfl⟩
theorem C_countBy (h : CK p I J D e) (hG : GrC I J D) (hq : I 11 15 = I 4 10) {k : Nat} (hk : k ≤ 45) : ∃ I', den (d + 4) 92 [.ref 11, .int (nI k)] (S sl p I J) = some (some (.int (nI (nbig D k (-1)))), S sl p I' J) ∧ CK p I' J D e ∧ GrC I' J D ∧ Fc I J I' J ∧ I' 11 15 = I' 4 10 := by
  obtain ⟨I', e1, e2, e3⟩ := sp_countBy (d := d) (sl := sl) h.sv hG hk
  exact ⟨I', e1, h.grp (fun a k _ _ _ => e3 _ _ (by omega)) (fun _ _ _ => rfl) e2 (by rw [e3 _ _ (by omega)]; exact hq), e2, ⟨fun a k _ _ => e3 _ _ (by omega), fun _ _ _ _ => rfl⟩, by rw [e3 _ _ (by omega), e3 _ _ (by omega)]; exact hq⟩
theorem C_refresh2 (h : CK p I J D e) : ∃ I', den (d + 3) 97 [.ref 11] (S sl p I J) = some (none, S sl p I' J) ∧ CK p I' J D e ∧ GrC I' J D ∧ Fc I J I' J ∧ I' 11 15 = I' 4 10 := by
  obtain ⟨I', e1, e2, e3, e4⟩ := sp_refresh (d := d) (sl := sl) h.sv h.gc
  exact ⟨I', e1, h.grp e4 (fun _ _ _ => rfl) e2 e3, e2, ⟨fun a k _ _ => e4 _ _ (by omega) (by omega) (by omega), fun _ _ _ _ => rfl⟩, by rw [e4 4 10 (by omega) (by omega) (by omega)]; exact e3⟩
theorem M_setsBy (hD : GD D) (h : dat I = D) {k : Nat} (hk : k ≤ 90) : ∃ I', den (d + 7) 258 [.ref 46, .int (nI k)] (S sl p I J) = some (some (.int (nI (nbig D k (-1)))), S sl p I' J) ∧ dat I' = D ∧ Fm I J I' J := by
  obtain ⟨I', e1, e2, e3, e4, -⟩ := M_groups (d := d) (sl := sl) (p := p) (J := J) hD h (an := k) (bt := -1) hk
  exact ⟨I', by rw [E258_0, e1, evK_v, E258_6, M_big hD e2 e3, evK_s, E258_10], e2, e4⟩
theorem A_would (hD : GD D) (x : Int32) : Agr (d + 40) sl p D e 140 259 [.int x] := by
  by_cases hx : ∃ s, 1 ≤ s ∧ s ≤ 45 ∧ x = nI s
  · obtain ⟨k, k1, k2, rfl⟩ := hx
    have w : (if nI k < 1 then (0 : Int32) else if nI k ≤ 45 then 1 else 0) = 1 := wj_y (a := 1) (n := 45) k1 k2 (by decide)
    refine ⟨.int (nI (nbig D k (-1))), 0, fun I J h => ?_, fun I J h => ?_⟩
    · obtain ⟨I1, a1, a2, a3, a4, a5⟩ := C_refresh2 (d := d + 36) (sl := sl) h
      obtain ⟨I2, b1, b2, b3, b4, b5⟩ := C_countBy (d := d + 35) (sl := sl) a2 a3 a5 k2
      refine QC.mk1 (I' := I2) (J' := J) ?_ b2 (a4.trans b4)
      rw [E140_0, sp_within, w, evK_s, E140_7, if_neg (by decide), a1, evK_v, E140_23, b1, evK_s, E140_32, E163_0, evK_s, E140_35]
    · obtain ⟨I1, a1, a2, a3⟩ := M_setsBy (d := d + 32) (sl := sl) (p := p) (J := J) hD h (k := k) (by omega)
      refine QM.mk1 (I' := I1) (J' := J) ?_ (a2.trans h.symm) a3
      rw [E259_0, sp_isFrom, w, evK_s, E259_7, if_neg (by decide), a1, evK_s, E259_16, E179_0, evK_s, E259_19]
  · have w : (if x < 1 then (0 : Int32) else if x ≤ 45 then 1 else 0) = 0 := wj_n (a := 1) (n := 45) (by decide) (by decide) hx
    refine ⟨.int (-1), 1, fun I J h => QC.mk1 (I' := I) (J' := J) ?_ h Fc.refl, fun I J h => QM.mk1 (I' := I) (J' := J) ?_ rfl Fm.refl⟩
    · simp only [E140_0, E140_7, E140_15, E140_23, E140_32, E140_35, w, evK_s, evK_v, E163_0, E164_0, E178_0, E179_0, E180_0, sp_within, sp_isFrom, n10, eq_self, if_true, if_false]
    · simp only [E259_0, E259_7, E259_16, E259_19, E259_27, w, evK_s, evK_v, E163_0, E164_0, E178_0, E179_0, E180_0, sp_within, sp_isFrom, n10, eq_self, if_true, if_false]
theorem A_linkFor (hD : GD D) (x : Int32) : Agr (d + 40) sl p D e 141 260 [.int x] := by
  by_cases hx : x < 0
  · refine ⟨.int (-1), 1, fun I J h => QC.mk1 (I' := I) (J' := J) ?_ h Fc.refl, fun I J h => QM.mk1 (I' := I) (J' := J) ?_ rfl Fm.refl⟩
    · rw [E141_0, if_pos hx, E164_0, evK_s, E141_9]
    · rw [E260_0, if_pos hx, E178_0, evK_s, E260_9]
  have hF : fsq (fun j => decide (nI (nbig D (1 + j) (-1)) = x)) 45 ≤ 45 := fsq_le _ _
  have hC : ∀ I J, CK p I J D e → ∃ I', den (d + 40) 141 [.ref 1, .int x] (S sl p I J) = ev (d + 40) 141 19 [.ref 1, .int x, .int (nI (1 + fsq (fun j => decide (nI (nbig D (1 + j) (-1)) = x)) 45))] [] (S sl p I' J) ∧ CK p I' J D e ∧ GrC I' J D ∧ Fc I J I' J ∧ I' 11 15 = I' 4 10 := by
    intro I J h
    obtain ⟨I1, a1, a2, a3, a4, a5⟩ := C_refresh2 (d := d + 36) (sl := sl) h
    obtain ⟨I2, b1, b2, b3, b4, b5⟩ := for_exk (M := Nat → Nat → Int32) (fun k y => ev (d + 40) 141 19 [.ref 1, .int x, .int k] [] (S sl p y J)) 1 (fsq (fun j => decide (nI (nbig D (1 + j) (-1)) = x)) 45) (fun _ y => CK p y J D e ∧ GrC y J D ∧ Fc I J y J ∧ y 11 15 = y 4 10)
      (by
        rintro j y hj ⟨c1, c2, c3, c4⟩
        have hn := fsq_no _ _ _ hj
        obtain ⟨y', g1, g2, g3, g4, g5⟩ := C_countBy (d := d + 35) (sl := sl) c1 c2 c4 (k := 1 + j) (by omega)
        refine ⟨y', ?_, g2, g3, c3.trans g4, g5⟩
        rw [E141_19, if_pos (show nI (1 + j) ≤ 45 from (nI_le_iff (b := 45) (by omega) (by omega)).mpr (by omega)), g1, evK_s, E141_33, if_neg (of_decide_eq_false hn), nI_1])
      I1 ⟨a2, a3, a4, a5⟩
    exact ⟨I2, by rw [E141_0, if_neg hx, a1, evK_v, E141_17]; exact b1, b2, b3, b4, b5⟩
  have hM : ∀ I J, dat I = D → ∃ I', den (d + 40) 260 [.ref 46, .int x] (S sl p I J) = ev (d + 40) 260 12 [.ref 46, .int x, .int (nI (1 + fsq (fun j => decide (nI (nbig D (1 + j) (-1)) = x)) 45))] [] (S sl p I' J) ∧ dat I' = D ∧ Fm I J I' J := by
    intro I J h
    obtain ⟨I2, b1, b2, b3⟩ := for_exk (M := Nat → Nat → Int32) (fun k y => ev (d + 40) 260 12 [.ref 46, .int x, .int k] [] (S sl p y J)) 1 (fsq (fun j => decide (nI (nbig D (1 + j) (-1)) = x)) 45) (fun _ y => dat y = D ∧ Fm I J y J)
      (by
        rintro j y hj ⟨c1, c2⟩
        have hn := fsq_no _ _ _ hj
        obtain ⟨y', g1, g2, g3⟩ := M_setsBy (d := d + 32) (sl := sl) (p := p) (J := J) hD c1 (k := 1 + j) (by omega)
        refine ⟨y', ?_, g2, c2.trans g3⟩
        rw [E260_12, if_pos (show nI (1 + j) ≤ 45 from (nI_le_iff (b := 45) (by omega) (by omega)).mpr (by omega)), g1, evK_s, E260_23, if_neg (of_decide_eq_false hn), nI_1])
      I ⟨h, Fm.refl⟩
    exact ⟨I2, by rw [E260_0, if_neg hx]; exact b1, b2, b3⟩
  by_cases q : fsq (fun j => decide (nI (nbig D (1 + j) (-1)) = x)) 45 = 45
  · rw [q] at hC hM
    refine ⟨.int (-1), 5, fun I J h => ?_, fun I J h => ?_⟩
    · obtain ⟨I', a1, a2, a3, a4, a5⟩ := hC I J h
      refine QC.mk1 (I' := I') (J' := J) ?_ a2 a4
      rw [a1, E141_19, if_neg (by decide), E164_0, evK_s, E141_54]
    · obtain ⟨I', a1, a2, a3⟩ := hM I J h
      refine QM.mk1 (I' := I') (J' := J) ?_ (a2.trans h.symm) a3
      rw [a1, E260_12, if_neg (by decide), E178_0, evK_s, E260_44]
  · have hy := fsq_yes (fun j => decide (nI (nbig D (1 + j) (-1)) = x)) 45 (by omega)
    generalize fsq (fun j => decide (nI (nbig D (1 + j) (-1)) = x)) 45 = m at hC hM hF hy q
    refine ⟨.int (nI (1 + m)), 0, fun I J h => ?_, fun I J h => ?_⟩
    · obtain ⟨I', a1, a2, a3, a4, a5⟩ := hC I J h
      obtain ⟨y', g1, g2, g3, g4, g5⟩ := C_countBy (d := d + 35) (sl := sl) a2 a3 a5 (k := 1 + m) (by omega)
      refine QC.mk1 (I' := y') (J' := J) ?_ g2 (a4.trans g4)
      rw [a1, E141_19, if_pos (show nI (1 + m) ≤ 45 from (nI_le_iff (b := 45) (by omega) (by omega)).mpr (by omega)), g1, evK_s, E141_33, if_pos (of_decide_eq_true hy), E163_0, evK_s, E141_42]
    · obtain ⟨I', a1, a2, a3⟩ := hM I J h
      obtain ⟨y', g1, g2, g3⟩ := M_setsBy (d := d + 32) (sl := sl) (p := p) (J := J) hD a2 (k := 1 + m) (by omega)
      refine QM.mk1 (I' := y') (J' := J) ?_ (g2.trans h.symm) (a3.trans g3)
      rw [a1, E260_12, if_pos (show nI (1 + m) ≤ 45 from (nI_le_iff (b := 45) (by omega) (by omega)).mpr (by omega)), g1, evK_s, E260_23, if_pos (of_decide_eq_true hy), E179_0, evK_s, E260_32]
end AG7
