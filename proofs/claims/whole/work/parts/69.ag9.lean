section AG9
variable {d sl : Nat} {p : Nat → Nat} {I I' : Nat → Nat → Int32} {J J' : Nat → Nat → Int64} {D : Nat → Nat → Int32} {e : Nat}
theorem C_sett (h : CK p I J D e) {r : Nat} (hr1 : 1 ≤ r) (hr : r ≤ 90) : ∃ I1 J1 I2 J2, den (d + 5) 104 [.ref 11] (S sl p I J) = some (none, S sl p I1 J1) ∧ den (d + 5) 39 [.ref 22, .int (nI r)] (S sl p I1 J1) = some (none, S sl p I2 J2) ∧ CK p I2 J2 D e ∧ GrC I2 J2 D ∧ StC I2 J2 D r ∧ Fc I J I2 J2 := by
  obtain ⟨I1, J1, b1, b2, b3, b4, b5, -⟩ := C_measureAll (d := d) (sl := sl) h
  obtain ⟨I2, J2, c1, c2, c3, c4, c5⟩ := C_settle (d := d) (sl := sl) b2 b3 b4 hr1 hr
  exact ⟨I1, J1, I2, J2, b1, c1, c2, b3.fr h.sv.gd (fun a k w => c4 _ _ (by omega) (by omega)) (fun a k w1 w2 => c5 _ _ (by omega) (by omega) (by omega)), c3, b5.trans ⟨fun a k w1 w2 => c4 _ _ (by omega) (by omega), fun a k w1 w2 => c5 _ _ (by omega) (by omega) (by omega)⟩⟩
theorem M_isReach (x : Int32) : den (d + 1) 263 [.int x] (S sl p I J) = some (some (.int (if x < 1 then 0 else if x ≤ 90 then 1 else 0)), S sl p I J) := by
  rw [E263_0, sp_isFrom, evK_s, E263_7, ck_if from_01]
theorem seO_b (hD : GD D) {r : Nat} : ∀ f n x, (∀ s, s < nst D → bv (x.2 s)) → ∀ s, s < nst D → bv ((stR D r f n x).2.2 s) := by
  intro f
  induction f with
  | zero => intro n x h; exact h
  | succ f ih =>
    intro n x h s hs
    have b3 : ∀ s, s < nst D → bv ((rdO D r x).2 s) := fun s hs => meV_b (smP_B hD _ (Nat.le_refl _)) (h s hs)
    show bv ((if chO D r x (nc D) = 0 then (n + 1, rdO D r x) else stR D r f (n + 1) (rdO D r x)).2.2 s)
    split
    · exact b3 s hs
    · exact ih (n + 1) (rdO D r x) b3 s hs
theorem A_settled (hD : GD D) (hL : LabD D) (x w : Int32) : Agr (d + 40) sl p D e 142 264 [.int x, .int w] := by
  have n60 := hD.n60
  by_cases hx : ∃ s, 1 ≤ s ∧ s ≤ 90 ∧ x = nI s
  · obtain ⟨r, r1, r2, rfl⟩ := hx
    have wr : (if nI r < 1 then (0 : Int32) else if nI r ≤ 90 then 1 else 0) = 1 := wj_y (a := 1) (n := 90) r1 r2 (by decide)
    by_cases ha : ∃ s, s ≤ 2 ∧ w = nI s
    · obtain ⟨k, hk, rfl⟩ := ha
      have w : (if nI k < 0 then (0 : Int32) else if nI k ≤ 2 then 1 else 0) = 1 := wi_y (n := 2) hk (by decide)
      have key : ∀ v : Int32, (∀ I J, CK p I J D e → GrC I J D → StC I J D r → ev (d + 40) 142 40 [.ref 1, .int (nI r), .int (nI k)] [] (S sl p I J) = some (some (.int v), S sl p (up2 I 1 8 0) J)) → (∀ I J l5, I 46 40 = nI (seO D r).1 → I 46 2 = nI (nc D) → l5 = nI (nc D) → ev (d + 40) 264 35 [.ref 46, .int (nI r), .int (nI k), .int (nI (cnt (fun j => !decide ((seO D r).2.1 j = stn D j)) (nc D))), .int (nI (cnt (fun j => decide ((seO D r).2.1 j = -1)) (nc D))), .int l5] [] (S sl p I J) = some (some (.int v), S sl p (up2 I 46 0 0) J)) → Agr (d + 40) sl p D e 142 264 [.int (nI r), .int (nI k)] := by
        intro v h1 h2
        refine ⟨.int v, 0, fun I J h => ?_, fun I J h => ?_⟩
        · obtain ⟨I1, J1, I2, J2, b1, b2, b3, b4, b5, b6⟩ := C_sett (d := d + 34) (sl := sl) h r1 r2
          refine QC.mk1 (I' := I2) (J' := J2) ?_ b3 b6
          rw [E142_0, sp_within, wr, evK_s, E142_7, if_neg (by decide), sp_within, w, evK_s, E142_16, if_neg (by decide), b1, evK_v, E142_32, b2, evK_v, h1 I2 J2 b3 b4 b5]
        · obtain ⟨I1, J1, a1, a2, a3, a4, a5, a6, a7, a8⟩ := M_settles (d := d + 28) (sl := sl) (p := p) (J := J) hD hL h r2
          refine QM.mk1 (I' := I1) (J' := J1) ?_ (a2.trans h.symm) a8
          obtain ⟨⟨u, v'⟩, c1, c2, c3⟩ := for_ex (M := Int32 × Int32) (fun j y => ev (d + 40) 264 35 [.ref 46, .int (nI r), .int (nI k), .int y.1, .int y.2, .int j] [] (S sl p I1 J1)) (nc D) (fun j y => y.1 = nI (cnt (fun j => !decide ((seO D r).2.1 j = stn D j)) j) ∧ y.2 = nI (cnt (fun j => decide ((seO D r).2.1 j = -1)) j))
            (by
              rintro j ⟨u, v'⟩ hj ⟨g1, g2⟩
              simp only at g1 g2
              simp only
              subst g1 g2
              have fin : ∀ b : Int32, b = (if (!decide ((seO D r).2.1 j = stn D j)) = true then 1 else 0) → ev (d + 40) 264 67 [.ref 46, .int (nI r), .int (nI k), .int (nI (cnt (fun j => !decide ((seO D r).2.1 j = stn D j)) j)), .int (nI (cnt (fun j => decide ((seO D r).2.1 j = -1)) j)), .int (nI j)] [.int b, .int (nI (cnt (fun j => !decide ((seO D r).2.1 j = stn D j)) j))] (S sl p I1 J1) = ev (d + 40) 264 35 [.ref 46, .int (nI r), .int (nI k), .int (nI (cnt (fun j => !decide ((seO D r).2.1 j = stn D j)) (j + 1))), .int (nI (cnt (fun j => decide ((seO D r).2.1 j = -1)) (j + 1))), .int (nI (j + 1))] [] (S sl p I1 J1) := by
                intro b hb
                have e1 : nI (cnt (fun j => !decide ((seO D r).2.1 j = stn D j)) j) + b = nI (cnt (fun j => !decide ((seO D r).2.1 j = stn D j)) (j + 1)) := by
                  rw [cnt_s, hb]
                  split
                  · rw [nI_1]
                  · rw [Int32.add_zero]; rfl
                rw [E264_67, ck_if (ixb_n (by omega) (by decide)), cl_n (by omega), a5 j hj, e1, nI_1, cnt_s (P := fun j => decide ((seO D r).2.1 j = -1))]
                by_cases q : (seO D r).2.1 j = -1
                · rw [if_pos q, if_pos (decide_eq_true q), nI_1]
                · rw [if_neg q, if_neg (by simpa using q), Int32.add_zero, nI_1]
                  rfl
              refine ⟨(nI (cnt (fun j => !decide ((seO D r).2.1 j = stn D j)) (j + 1)), nI (cnt (fun j => decide ((seO D r).2.1 j = -1)) (j + 1))), ?_, rfl, rfl⟩
              rw [E264_35, d2 hD a2, if_pos (lt_n hj (by omega)), ck_if (ixb_n (by omega) (by decide)), ck_if (ixb_n (by omega) (by decide)), cl_n (by omega), a5 j hj, a3.e61 j hj]
              by_cases q : (seO D r).2.1 j = stn D j
              · rw [if_pos q]
                exact fin 0 (by simp [q])
              · rw [if_neg q]
                exact fin 1 (by simp [q]))
            (0, 0) ⟨rfl, rfl⟩
          simp only at c1 c2 c3
          rw [E264_0, M_isReach, wr, evK_s, E264_4, if_neg (by decide), sp_isFrom, w, evK_s, E264_13, if_neg (by decide), a1, evK_v, E264_27, c1, c2, c3, h2 I1 J1 _ a4 (d2 hD a2) rfl]
      have hk2 : k = 0 ∨ k = 1 ∨ k = 2 := by omega
      rcases hk2 with rfl | rfl | rfl
      · refine key (nI (seO D r).1) (fun I J h hG hS => ?_) (fun I J l5 h1 h2 h3 => ?_)
        · rw [E142_40, if_pos (by decide), hS.1, E163_0, evK_s, E142_55]
        · rw [h3, E264_35, h2, if_neg (nlt_n (by omega)), if_pos (by decide), h1, E264_119, E179_0, evK_s, E264_122]
      · refine key (nI (cnt (fun j => !decide ((seO D r).2.1 j = stn D j)) (nc D))) (fun I J h hG hS => ?_) (fun I J l5 h1 h2 h3 => ?_)
        · rw [E142_40, if_neg (by decide), if_pos (by decide), E44_0, for_cnt (fun j x => ev (d + 39) 44 4 [.ref 22, .int x, .int j] [] (S sl p I J)) (fun j => !decide ((seO D r).2.1 j = stn D j)) (nc D) (by
            intro j x hj
            rw [E44_4, h.sv.count, if_pos (lt_n hj (by omega)), ck_if (ixb_n (by omega) (by decide)), ck_if (ixb_n (by omega) (by decide)), cl_n (by omega), hS.2.1 j hj, hG.pl j hj, nI_1]
            by_cases q : (seO D r).2.1 j = stn D j
            · rw [if_pos q, if_neg (by simp [q])]
            · rw [if_neg q, if_pos (by simp [q])]), E44_4, h.sv.count, if_neg (nlt_n (by omega)), evK_s, E142_69, E142_79, E163_0, evK_s, E142_82]
        · rw [h3, E264_35, h2, if_neg (nlt_n (by omega)), if_neg (by decide), if_pos (by decide), E264_119, E179_0, evK_s, E264_122]
      · refine key (nI (cnt (fun j => decide ((seO D r).2.1 j = -1)) (nc D))) (fun I J h hG hS => ?_) (fun I J l5 h1 h2 h3 => ?_)
        · rw [E142_40, if_neg (by decide), if_neg (by decide), E45_0, for_cnt (fun j x => ev (d + 39) 45 4 [.ref 22, .int x, .int j] [] (S sl p I J)) (fun j => decide ((seO D r).2.1 j = -1)) (nc D) (by
            intro j x hj
            rw [E45_4, h.sv.count, if_pos (lt_n hj (by omega)), ck_if (ixb_n (by omega) (by decide)), cl_n (by omega), hS.2.1 j hj, nI_1]
            by_cases q : (seO D r).2.1 j = -1
            · rw [if_pos q, if_pos (decide_eq_true q)]
            · rw [if_neg q, if_neg (by simpa using q)]), E45_4, h.sv.count, if_neg (nlt_n (by omega)), evK_s, E142_79, E163_0, evK_s, E142_82]
        · rw [h3, E264_35, h2, if_neg (nlt_n (by omega)), if_neg (by decide), if_neg (by decide), E264_119, E179_0, evK_s, E264_122]
    · have w : (if w < 0 then (0 : Int32) else if w ≤ 2 then 1 else 0) = 0 := wi_n (n := 2) (by decide) ha
      refine ⟨.int (-1), 1, fun I J h => QC.mk1 (I' := I) (J' := J) ?_ h Fc.refl, fun I J h => QM.mk1 (I' := I) (J' := J) ?_ rfl Fm.refl⟩
      · simp only [E142_0, E142_7, E142_16, E142_19, E142_24, E142_32, E142_40, E142_55, E142_69, E142_79, E142_82, wr, w, evK_s, evK_v, E163_0, E164_0, E178_0, E179_0, E180_0, sp_within, sp_isFrom, n10, eq_self, if_true, if_false]
      · simp only [E264_0, E264_4, E264_13, E264_16, E264_21, E264_27, E264_67, E264_119, E264_122, M_isReach, wr, w, evK_s, evK_v, E163_0, E164_0, E178_0, E179_0, E180_0, sp_within, sp_isFrom, n10, eq_self, if_true, if_false]
  · have wr : (if x < 1 then (0 : Int32) else if x ≤ 90 then 1 else 0) = 0 := wj_n (a := 1) (n := 90) (by decide) (by decide) hx
    refine ⟨.int (-1), 1, fun I J h => QC.mk1 (I' := I) (J' := J) ?_ h Fc.refl, fun I J h => QM.mk1 (I' := I) (J' := J) ?_ rfl Fm.refl⟩
    · simp only [E142_0, E142_7, E142_16, E142_19, E142_24, E142_32, E142_40, E142_55, E142_69, E142_79, E142_82, wr, evK_s, evK_v, E163_0, E164_0, E178_0, E179_0, E180_0, sp_within, sp_isFrom, n10, eq_self, if_true, if_false]
    · simp only [E264_0, E264_4, E264_13, E264_16, E264_21, E264_27, E264_67, E264_119, E264_122, M_isReach, wr, evK_s, evK_v, E163_0, E164_0, E178_0, E179_0, E180_0, sp_within, sp_isFrom, n10, eq_self, if_true, if_false]
theorem A_settledIn (hD : GD D) (hL : LabD D) (x y : Int32) : Agr (d + 40) sl p D e 143 265 [.int x, .int y] := by
  have n60 := hD.n60
  by_cases hx : ∃ s, 1 ≤ s ∧ s ≤ 90 ∧ x = nI s
  · obtain ⟨r, r1, r2, rfl⟩ := hx
    have wr : (if nI r < 1 then (0 : Int32) else if nI r ≤ 90 then 1 else 0) = 1 := wj_y (a := 1) (n := 90) r1 r2 (by decide)
    by_cases hy : ∃ i, i < nc D ∧ y = nI i
    · obtain ⟨i, hi, rfl⟩ := hy
      refine ⟨.int ((seO D r).2.1 i), 0, fun I J h => ?_, fun I J h => ?_⟩
      · obtain ⟨I1, J1, I2, J2, b1, b2, b3, b4, b5, b6⟩ := C_sett (d := d + 34) (sl := sl) h r1 r2
        refine QC.mk1 (I' := I2) (J' := J2) ?_ b3 b6
        rw [E143_0, sp_within, wr, evK_s, E143_7, if_neg (by decide), C_hasCrack h.sv, cr_y hD hi, evK_s, E143_24, if_neg (by decide), b1, evK_v, E143_40, b2, evK_v, E143_48, ck_if (ixb_n (by omega) (by decide)), cl_n (by omega), b5.2.1 i hi, E163_0, evK_s, E143_61]
      · obtain ⟨I1, J1, a1, a2, a3, a4, a5, a6, a7, a8⟩ := M_settles (d := d + 28) (sl := sl) (p := p) (J := J) hD hL h r2
        refine QM.mk1 (I' := I1) (J' := J1) ?_ (a2.trans h.symm) a8
        rw [E265_0, M_isReach, wr, evK_s, E265_4, if_neg (by decide), M_isCrack hD h, cr_y hD hi, evK_s, E265_18, if_neg (by decide), a1, evK_v, E265_32, ck_if (ixb_n (by omega) (by decide)), cl_n (by omega), a5 i hi, E179_0, evK_s, E265_42]
    · refine ⟨.int (-1), 2, fun I J h => QC.mk1 (I' := I) (J' := J) ?_ h Fc.refl, fun I J h => QM.mk1 (I' := I) (J' := J) ?_ rfl Fm.refl⟩
      · simp only [E143_0, E143_7, E143_15, E143_24, E143_32, E143_40, E143_48, E143_61, wr, C_hasCrack h.sv, cr_n hD hy, evK_s, evK_v, E163_0, E164_0, E178_0, E179_0, E180_0, sp_within, sp_isFrom, n10, eq_self, if_true, if_false]
      · simp only [E265_0, E265_4, E265_12, E265_18, E265_26, E265_32, E265_42, M_isReach, wr, M_isCrack hD h, cr_n hD hy, evK_s, evK_v, E163_0, E164_0, E178_0, E179_0, E180_0, sp_within, sp_isFrom, n10, eq_self, if_true, if_false]
  · have wr : (if x < 1 then (0 : Int32) else if x ≤ 90 then 1 else 0) = 0 := wj_n (a := 1) (n := 90) (by decide) (by decide) hx
    refine ⟨.int (-1), 1, fun I J h => QC.mk1 (I' := I) (J' := J) ?_ h Fc.refl, fun I J h => QM.mk1 (I' := I) (J' := J) ?_ rfl Fm.refl⟩
    · simp only [E143_0, E143_7, E143_15, E143_24, E143_32, E143_40, E143_48, E143_61, wr, evK_s, evK_v, E163_0, E164_0, E178_0, E179_0, E180_0, sp_within, sp_isFrom, n10, eq_self, if_true, if_false]
    · simp only [E265_0, E265_4, E265_12, E265_18, E265_26, E265_32, E265_42, M_isReach, wr, evK_s, evK_v, E163_0, E164_0, E178_0, E179_0, E180_0, sp_within, sp_isFrom, n10, eq_self, if_true, if_false]
theorem A_settledLie (hD : GD D) (hL : LabD D) (x y : Int32) : Agr (d + 40) sl p D e 144 266 [.int x, .int y] := by
  have n60 := hD.n60
  have h30 := nst_30 hD hL
  by_cases hx : ∃ s, 1 ≤ s ∧ s ≤ 90 ∧ x = nI s
  · obtain ⟨r, r1, r2, rfl⟩ := hx
    have wr : (if nI r < 1 then (0 : Int32) else if nI r ≤ 90 then 1 else 0) = 1 := wj_y (a := 1) (n := 90) r1 r2 (by decide)
    by_cases hy : ∃ i, i < nst D ∧ y = nI i
    · obtain ⟨s, hs, rfl⟩ := hy
      have hb : bv ((seO D r).2.2 s) := seO_b hD 12 0 (stn D, meO D) (fun s hs => meO_b hD hL hs) s hs
      have hw := bv_w hb
      refine ⟨.int (nI (100 * drv ((seO D r).2.2 s) + dpv ((seO D r).2.2 s))), 0, fun I J h => ?_, fun I J h => ?_⟩
      · obtain ⟨I0, c1, c2, c3, c4⟩ := C_hasSet (d := d + 35) (sl := sl) h (nI s)
        obtain ⟨I1, J1, I2, J2, b1, b2, b3, b4, b5, b6⟩ := C_sett (d := d + 34) (sl := sl) c2 r1 r2
        refine QC.mk1 (I' := I2) (J' := J2) ?_ b3 (c4.trans b6)
        rw [E144_0, sp_within, wr, evK_s, E144_7, if_neg (by decide), c1, st_y hD hL hs, evK_s, E144_24, if_neg (by decide), b1, evK_v, E144_40, b2, evK_v, E144_48, ck_if (ixb_n (by omega) (by decide)), cl_n (by omega), sp_lieOfC (ob900 (by omega)) b3.sv.sn (by rw [b5.2.2 s hs]; exact hw), b5.2.2 s hs, evK_s, E144_65, E163_0, evK_s, E144_68]
      · obtain ⟨I1, J1, a1, a2, a3, a4, a5, a6, a7, a8⟩ := M_settles (d := d + 28) (sl := sl) (p := p) (J := J) hD hL h r2
        refine QM.mk1 (I' := set3v I1 ((seO D r).2.2 s)) (J' := J1) ?_ (by rw [dat_set3v]; exact a2.trans h.symm) (a8.trans ⟨fun a k _ => set3v_n (by omega), fun _ _ _ => rfl⟩)
        rw [E266_0, M_isReach, wr, evK_s, E266_4, if_neg (by decide), a1, evK_v, E266_18, sp_isSet hD a3, st_y hD hL hs, evK_s, E266_23, if_neg (by decide), M_layMean (by omega), evK_v, a6 s hs, E266_37, sp_directionOf hw, evK_s, E266_44, sp_dipOf hw, evK_s, E266_49, E179_0, evK_s, E266_53, show (100 : Int32) = nI 100 from rfl, nI_mul, nI_add]
    · refine ⟨.int (-1), 2, fun I J h => ?_, fun I J h => ?_⟩
      · obtain ⟨I0, c1, c2, c3, c4⟩ := C_hasSet (d := d + 35) (sl := sl) h y
        refine QC.mk1 (I' := I0) (J' := J) ?_ c2 c4
        rw [E144_0, sp_within, wr, evK_s, E144_7, if_neg (by decide), c1, st_n hD hL hy, evK_s, E144_24, if_pos rfl, E164_0, evK_s, E144_32]
      · obtain ⟨I1, J1, a1, a2, a3, a4, a5, a6, a7, a8⟩ := M_settles (d := d + 28) (sl := sl) (p := p) (J := J) hD hL h r2
        refine QM.mk1 (I' := I1) (J' := J1) ?_ (a2.trans h.symm) a8
        rw [E266_0, M_isReach, wr, evK_s, E266_4, if_neg (by decide), a1, evK_v, E266_18, sp_isSet hD a3, st_n hD hL hy, evK_s, E266_23, if_pos rfl, E178_0, evK_s, E266_31]
  · have wr : (if x < 1 then (0 : Int32) else if x ≤ 90 then 1 else 0) = 0 := wj_n (a := 1) (n := 90) (by decide) (by decide) hx
    refine ⟨.int (-1), 1, fun I J h => QC.mk1 (I' := I) (J' := J) ?_ h Fc.refl, fun I J h => QM.mk1 (I' := I) (J' := J) ?_ rfl Fm.refl⟩
    · simp only [E144_0, E144_7, E144_15, E144_24, E144_32, E144_40, E144_48, E144_65, E144_68, wr, evK_s, evK_v, E163_0, E164_0, E178_0, E179_0, E180_0, sp_within, sp_isFrom, n10, eq_self, if_true, if_false]
    · simp only [E266_0, E266_4, E266_12, E266_18, E266_23, E266_31, E266_37, E266_44, E266_49, E266_53, M_isReach, wr, evK_s, evK_v, E163_0, E164_0, E178_0, E179_0, E180_0, sp_within, sp_isFrom, n10, eq_self, if_true, if_false]
end AG9
