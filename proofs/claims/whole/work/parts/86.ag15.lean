section AG15
variable {d sl : Nat} {p : Nat → Nat} {I I' : Nat → Nat → Int32} {J J' : Nat → Nat → Int64} {D : Nat → Nat → Int32} {e : Nat}
theorem C_haz (h : CK p I J D e) : ∃ I1 J1 I2 J2, den (d + 5) 104 [.ref 11] (S sl p I J) = some (none, S sl p I1 J1) ∧ den (d + 5) 52 [.ref 34] (S sl p I1 J1) = some (none, S sl p I2 J2) ∧ CK p I2 J2 D e ∧ GrC I2 J2 D ∧ (∀ s, s < nst D → Msd I2 J2 D s) ∧ HzC I2 D ∧ Fc I J I2 J2 := by
  obtain ⟨I1, J1, b1, b2, b3, b4, b5, b6, b7⟩ := C_measureAll (d := d) (sl := sl) h
  have n30 := b3.n30 h.sv.gd
  obtain ⟨I2, J2, c1, c2, c3, c4, c5⟩ := C_findW (d := d + 1) (sl := sl) b2 b3 b4 (by rw [b7, b6 4 10 (by omega) (by omega) (by omega)])
  exact ⟨I1, J1, I2, J2, b1, c1, c2, b3.fr h.sv.gd (fun a k w => c4 _ _ (by omega) (by omega) (by omega)) (fun a k _ _ => c5 _ _ (by omega)), fun s hs => (b4 s hs).fr (fun k _ => c4 _ _ (by omega) (by omega) (by omega)) (fun k => c5 _ _ (by omega)) (fun k => c5 _ _ (by omega)) (fun k => c5 _ _ (by omega)), c3, b5.trans ⟨fun a k _ _ => c4 _ _ (by omega) (by omega) (by omega), fun a k _ _ => c5 _ _ (by omega)⟩⟩
theorem rkN_b (hD : GD D) (hL : LabD D) (x y : Nat) : rkN D x y ≤ 10000 := by
  have n60 := hD.n60
  have h30 := nst_30 hD hL
  have h1 : cnt (slB D x y) (nst D) ≤ nst D := cnt_le _
  have h2 : cnt (tpB D x y) (nst D) ≤ nst D := cnt_le _
  have h3 : ∀ n, smN (wcN D x y) n ≤ 30 * n := by
    intro n
    induction n with
    | zero => exact Nat.le_refl 0
    | succ n ih =>
      have : wcN D x y n ≤ nst D - (n + 1) := cnt_le _
      rw [smN_s]
      omega
  have := h3 (nst D)
  unfold rkN
  omega
theorem A_risk (hD : GD D) (hL : LabD D) (w : Int32) : Agr (d + 40) sl p D e 157 299 [.int w] := by
  obtain ⟨x, hx, ex⟩ := hD.sd
  obtain ⟨y, hy1, hy, ey⟩ := hD.sp
  have n60 := hD.n60
  have h30 := nst_30 hD hL
  have key : ∀ v st, (∀ I J, CK p I J D e → GrC I J D → (∀ s, s < nst D → Msd I J D s) → HzC I D → I 34 5 = nI x → I 34 6 = nI y → ev (d + 40) 157 14 [.ref 1, .int w] [] (S sl p I J) = some (some (.int v), S sl p (up2 I 1 8 st) J)) → (∀ I J, dat I = D → QM (d + 40) sl p I J 299 [.ref 46, .int w] (.int v) st) → Agr (d + 40) sl p D e 157 299 [.int w] := by
    intro v st h1 h2
    refine ⟨.int v, st, fun I J h => ?_, h2⟩
    obtain ⟨I1, J1, I2, J2, a1, a2, a3, a4, a5, a6, a7⟩ := C_haz (d := d + 34) (sl := sl) h
    refine QC.mk1 (I' := I2) (J' := J2) ?_ a3 a7
    rw [E157_0, a1, evK_v, E157_7, a2, evK_v, h1 I2 J2 a3 a4 a5 a6 ((a3.sl 0 (by omega)).trans ex) ((a3.sl 1 (by omega)).trans ey)]
  by_cases ha : ∃ s, s ≤ 3 ∧ w = nI s
  · obtain ⟨k, hk, rfl⟩ := ha
    have w : (if nI k < 0 then (0 : Int32) else if nI k ≤ 3 then 1 else 0) = 1 := wi_y (n := 3) hk (by decide)
    have kM : ∀ v st, (∀ I J, dat I = D → LsA I D → I 46 6 = nI x → I 46 7 = nI y → ev (d + 40) 299 19 [.ref 46, .int (nI k), .retAddr 0] [] (S sl p I J) = some (some (.int v), S sl p (up2 I 46 0 st) J)) → ∀ I J, dat I = D → QM (d + 40) sl p I J 299 [.ref 46, .int (nI k)] (.int v) st := by
      intro v st h2 I J h
      obtain ⟨I1, J1, a1, a2, a3, a4⟩ := M_lies (d := d + 28) (sl := sl) (p := p) (J := J) hD hL h
      refine QM.mk1 (I' := I1) (J' := J1) ?_ (a2.trans h.symm) a4
      rw [E299_0, sp_isFrom, w, evK_s, E299_6, if_neg (by decide), a1, evK_v, h2 I1 J1 a2 a3 ((d6 a2 (by omega)).trans ex) ((d6 a2 (by omega)).trans ey)]
    have hk2 : k = 0 ∨ k = 1 ∨ k = 2 ∨ k = 3 := by omega
    rcases hk2 with rfl | rfl | rfl | rfl
    · refine key (biN (slB D x y) (nst D)) 0 (fun I J h hG hM hZ s5 s6 => ?_) (kM _ _ (fun I J h hA s6 s7 => ?_))
      · rw [E157_14, if_pos (by decide), s5, s6, C_sliding h hG hM, evK_s, E157_66, E163_0, evK_s, E157_69]
      · rw [E299_19, if_pos (by decide), s6, s7, M_slidingBy hD hL h hA (by omega), evK_s, E299_36, E179_0, evK_s, E299_39]
    · refine key (biN (tpB D x y) (nst D)) 0 (fun I J h hG hM hZ s5 s6 => ?_) (kM _ _ (fun I J h hA s6 s7 => ?_))
      · rw [E157_14, if_neg (by decide), if_pos (by decide), s5, s6, C_toppling h hG hM, evK_s, E157_92, E163_0, evK_s, E157_95]
      · rw [E299_19, if_neg (by decide), if_pos (by decide), s6, s7, M_topplingBy hD hL h hA hx, evK_s, E299_58, E179_0, evK_s, E299_61]
    · refine key (nI (smN (wcN D x y) (nst D))) 0 (fun I J h hG hM hZ s5 s6 => ?_) (kM _ _ (fun I J h hA s6 s7 => ?_))
      · rw [E157_14, if_neg (by decide), if_neg (by decide), if_pos (by decide), s5, s6, C_countW h hG hZ hx hy, evK_s, E157_118, E163_0, evK_s, E157_121]
      · rw [E299_19, if_neg (by decide), if_neg (by decide), if_pos (by decide), s6, s7, M_countW hD hL h hA hx hy, evK_s, E299_80, E179_0, evK_s, E299_83]
    · by_cases q : fcA (wsB D x y) (nst D) = nst D
      · refine key (-1) 5 (fun I J h hG hM hZ s5 s6 => ?_) (kM _ _ (fun I J h hA s6 s7 => ?_))
        · rw [E157_14, if_neg (by decide), if_neg (by decide), if_neg (by decide), if_pos (by decide), C_first2 h hG hZ hx hy ex ey, if_pos q, evK_s, E157_130, C_orNothing_n, evK_s, E157_133]
        · rw [E299_19, if_neg (by decide), if_neg (by decide), if_neg (by decide), M_first hD hL h hA hx hy ex ey, if_pos q, evK_s, E299_88, if_pos rfl, E178_0, evK_s, E299_99]
      · have hA2 : fcA (wsB D x y) (nst D) ≤ nst D := fsq_le _ _
        have hB2 : fcB (wsB D x y) (nst D) (fcA (wsB D x y) (nst D)) ≤ nst D - (fcA (wsB D x y) (nst D) + 1) := fsq_le _ _
        refine key (nI (100 * fcA (wsB D x y) (nst D) + (fcA (wsB D x y) (nst D) + 1 + fcB (wsB D x y) (nst D) (fcA (wsB D x y) (nst D))))) 0 (fun I J h hG hM hZ s5 s6 => ?_) (kM _ _ (fun I J h hA s6 s7 => ?_))
        · rw [E157_14, if_neg (by decide), if_neg (by decide), if_neg (by decide), if_pos (by decide), C_first2 h hG hZ hx hy ex ey, if_neg q, evK_s, E157_130, C_orNothing_y (by omega), evK_s, E157_133]
        · rw [E299_19, if_neg (by decide), if_neg (by decide), if_neg (by decide), M_first hD hL h hA hx hy ex ey, if_neg q, evK_s, E299_88, if_neg (nI_m1 (by omega)), E179_0, evK_s, E299_107]
  · have w0 : (if w < 0 then (0 : Int32) else if w ≤ 3 then 1 else 0) = 0 := wi_n (n := 3) (by decide) ha
    refine key (-1) 1 (fun I J h hG hM hZ s5 s6 => ?_) (fun I J h => QM.mk1 (I' := I) (J' := J) ?_ rfl Fm.refl)
    · rw [E157_14, if_neg (show ¬ w = 0 from fun z => ha ⟨0, by omega, z⟩), if_neg (show ¬ w = 1 from fun z => ha ⟨1, by omega, z⟩), if_neg (show ¬ w = 2 from fun z => ha ⟨2, by omega, z⟩), if_neg (show ¬ w = 3 from fun z => ha ⟨3, by omega, z⟩), E164_0, evK_s, E157_139]
    · rw [E299_0, sp_isFrom, w0, evK_s, E299_6, if_pos rfl, E178_0, evK_s, E299_14]
theorem A_safety (hD : GD D) (hL : LabD D) (x : Int32) : Agr (d + 40) sl p D e 158 300 [.int x] := by
  obtain ⟨f, hf, ef⟩ := hD.sf
  have n60 := hD.n60
  have h30 := nst_30 hD hL
  by_cases hx : ∃ i, i < nst D ∧ x = nI i
  · obtain ⟨s, hs, rfl⟩ := hx
    have hp := dpv_le (meO D s)
    by_cases q : dpv (meO D s) = 0
    · have q' : nI (dpv (meO D s)) = 0 := by rw [q]; rfl
      refine ⟨.int (-1), 5, fun I J h => ?_, fun I J h => ?_⟩
      · obtain ⟨I1, a1, a2, a3, a4, a5⟩ := C_hasSet2 (d := d + 35) (sl := sl) h (nI s)
        obtain ⟨I2, J2, b1, b2, b3, b4, b5, b6⟩ := C_measured (d := d + 35) (sl := sl) a2 a3 a5 hs
        refine QC.mk1 (I' := I2) (J' := J2) ?_ b2 (a4.trans b6)
        rw [E158_0, a1, st_y hD hL hs, evK_s, E158_8, if_neg (by decide), b1, evK_s, E158_25 _ (by omega), b4.dip, if_pos q', E164_0, evK_s, E158_38]
      · obtain ⟨I1, J1, a1, a2, a3, a4⟩ := M_lies (d := d + 28) (sl := sl) (p := p) (J := J) hD hL h
        refine QM.mk1 (I' := I1) (J' := J1) ?_ (a2.trans h.symm) a4
        rw [E300_0, a1, evK_v, E300_4, sp_isSet hD a3.st, st_y hD hL hs, evK_s, E300_9, if_neg (by decide), ck_if (ixb_n (by omega) (by decide)), cl_n (by omega), (a3.li s hs).2, if_pos q', E178_0, evK_s, E300_32]
    · have q' : ¬ nI (dpv (meO D s)) = 0 := fun w => q (nI_ij (b := 0) (by omega) (by omega) w)
      have hc := zp_b (k := f) (by omega)
      have hsn : 0 < (sn (nI (dpv (meO D s)))).toInt := by
        have := of_decide_eq_true (List.all_eq_true.mp snp_tab (dpv (meO D s) - 1) (List.mem_range.mpr (by omega)))
        rw [show dpv (meO D s) - 1 + 1 = dpv (meO D s) by omega] at this
        exact this
      have hmul := mulc (cs_b (nI f)) (sn_b (nI (dpv (meO D s))))
      have hnz : ¬ (cs (nI f)).toInt64 * (sn (nI (dpv (meO D s)))).toInt64 = 0 := fun w => by
        have hp := prod_b (cs_b (nI f)) (sn_b (nI (dpv (meO D s))))
        have h1 := congrArg Int64.toInt w
        rw [mul64 (by rw [i64_of, i64_of]; omega) (by rw [i64_of, i64_of]; omega), i64_of, i64_of] at h1
        have h2 := Int.mul_pos hc hsn
        have e0 : (0 : Int64).toInt = 0 := rfl
        omega
      refine ⟨.int (100 * (sn (nI f)).toInt64 * (cs (nI (dpv (meO D s)))).toInt64 / ((cs (nI f)).toInt64 * (sn (nI (dpv (meO D s)))).toInt64)).toInt32, 0, fun I J h => ?_, fun I J h => ?_⟩
      · obtain ⟨I1, a1, a2, a3, a4, a5⟩ := C_hasSet2 (d := d + 35) (sl := sl) h (nI s)
        obtain ⟨I2, J2, b1, b2, b3, b4, b5, b6⟩ := C_measured (d := d + 35) (sl := sl) a2 a3 a5 hs
        refine QC.mk1 (I' := I2) (J' := J2) ?_ b2 (a4.trans b6)
        have s7 : I2 34 7 = nI f := (b2.sl 2 (by omega)).trans ef
        rw [E158_0, a1, st_y hD hL hs, evK_s, E158_8, if_neg (by decide), b1, evK_s, E158_25 _ (by omega), b4.dip, if_neg q', E57_0, s7, C_sin b2.sv.sn (by omega), evK_s, E57_14, C_cos b2.sv.sn (by omega), evK_s, E57_24, s7, C_cos b2.sv.sn (by omega), evK_s, E57_39, C_sin b2.sv.sn (by omega), evK_s, E57_48, sp_parted, evK_s, E57_53, evK_s, E158_48, E163_0, evK_s, E158_51]
        unfold pt
        rw [if_neg hnz]
      · obtain ⟨I1, J1, a1, a2, a3, a4⟩ := M_lies (d := d + 28) (sl := sl) (p := p) (J := J) hD hL h
        refine QM.mk1 (I' := I1) (J' := J1) ?_ (a2.trans h.symm) a4
        have s7 : I1 46 8 = nI f := (d6 a2 (by omega)).trans ef
        rw [E300_0, a1, evK_v, E300_4, sp_isSet hD a3.st, st_y hD hL hs, evK_s, E300_9, if_neg (by decide), ck_if (ixb_n (by omega) (by decide)), cl_n (by omega), (a3.li s hs).2, if_neg q', s7, sp_sine, evK_s, E300_44, ck_if (ixb_n (by omega) (by decide)), cl_n (by omega), (a3.li s hs).2, sp_cosine, evK_s, E300_55, s7, sp_cosine, evK_s, E300_64, ck_if (ixb_n (by omega) (by decide)), cl_n (by omega), (a3.li s hs).2, sp_sine, evK_s, E300_73, hmul, ck_if (by simpa using hnz), E179_0, evK_s, E300_80]
  · refine ⟨.int (-1), 2, fun I J h => ?_, fun I J h => ?_⟩
    · obtain ⟨I1, a1, a2, a3, a4, a5⟩ := C_hasSet2 (d := d + 35) (sl := sl) h x
      refine QC.mk1 (I' := I1) (J' := J) ?_ a2 a4
      rw [E158_0, a1, st_n hD hL hx, evK_s, E158_8, if_pos rfl, E164_0, evK_s, E158_16]
    · obtain ⟨I1, J1, a1, a2, a3, a4⟩ := M_lies (d := d + 28) (sl := sl) (p := p) (J := J) hD hL h
      refine QM.mk1 (I' := I1) (J' := J1) ?_ (a2.trans h.symm) a4
      rw [E300_0, a1, evK_v, E300_4, sp_isSet hD a3.st, st_n hD hL hx, evK_s, E300_9, if_pos rfl, E178_0, evK_s, E300_17]
theorem A_steepest (hD : GD D) (hL : LabD D) : Agr (d + 40) sl p D e 160 303 [] := by
  obtain ⟨x, hx, ex⟩ := hD.sd
  have hF : fsq (fun i => !decide (rkN D x (i + 1) = 0)) 90 ≤ 90 := fsq_le _ _
  refine ⟨.int (nI (fsq (fun i => !decide (rkN D x (i + 1) = 0)) 90)), 0, fun I J h => ?_, fun I J h => ?_⟩
  · obtain ⟨I1, J1, I2, J2, a1, a2, a3, a4, a5, a6, a7⟩ := C_haz (d := d + 34) (sl := sl) h
    refine QC.mk1 (I' := I2) (J' := J2) ?_ a3 a7
    have s5 : I2 34 5 = nI x := (a3.sl 0 (by omega)).trans ex
    obtain ⟨-, e1, -⟩ := for_ex (M := Unit) (fun k _ => ev (d + 40) 160 18 [.ref 1, .int k, .int (k + 1)] [] (S sl p I2 J2)) (fsq (fun i => !decide (rkN D x (i + 1) = 0)) 90) (fun _ _ => True)
      (by
        intro i _ hi _
        have hn := fsq_no _ _ _ hi
        have h0 : rkN D x (i + 1) = 0 := by simpa using hn
        refine ⟨(), ?_, trivial⟩
        rw [nI_1, E160_18, if_pos (show nI (i + 1) ≤ 90 from (nI_le_iff (b := 90) (by omega) (by omega)).mpr (by omega)), s5, C_countAll a3 a4 a5 a6 hx (by omega), evK_s, E160_39, h0, if_pos (by decide)])
      () trivial
    rw [E160_0, a1, evK_v, E160_7, a2, evK_v, E160_14]
    refine Eq.trans e1 ?_
    by_cases q : fsq (fun i => !decide (rkN D x (i + 1) = 0)) 90 = 90
    · rw [q, E160_18, if_neg (by decide), E160_53, E163_0, evK_s, E160_58]
    · have hy := fsq_yes (fun i => !decide (rkN D x (i + 1) = 0)) 90 (by omega)
      have h0 : ¬ rkN D x (fsq (fun i => !decide (rkN D x (i + 1) = 0)) 90 + 1) = 0 := by simpa using hy
      have hb := rkN_b hD hL x (fsq (fun i => !decide (rkN D x (i + 1) = 0)) 90 + 1)
      generalize fsq (fun i => !decide (rkN D x (i + 1) = 0)) 90 = m at *
      rw [nI_1, E160_18, if_pos (show nI (m + 1) ≤ 90 from (nI_le_iff (b := 90) (by omega) (by omega)).mpr (by omega)), s5, C_countAll a3 a4 a5 a6 hx (by omega), evK_s, E160_39, if_neg (show ¬ nI (rkN D x (m + 1)) ≤ 0 from fun w => by have := (nI_le_iff (b := 0) (by omega) (by omega)).mp w; omega), E160_53, E163_0, evK_s, E160_58]
  · obtain ⟨I1, J1, a1, a2, a3, a4⟩ := M_lies (d := d + 28) (sl := sl) (p := p) (J := J) hD hL h
    refine QM.mk1 (I' := I1) (J' := J1) ?_ (a2.trans h.symm) a4
    have s6 : I1 46 6 = nI x := (d6 a2 (by omega)).trans ex
    obtain ⟨-, e1, -⟩ := for_ex (M := Unit) (fun k _ => ev (d + 40) 303 6 [.ref 46, .int k] [] (S sl p I1 J1)) (fsq (fun i => !decide (rkN D x (i + 1) = 0)) 90) (fun _ _ => True)
      (by
        intro i _ hi _
        have hn := fsq_no _ _ _ hi
        have h0 : rkN D x (i + 1) = 0 := by simpa using hn
        refine ⟨(), ?_, trivial⟩
        rw [E303_6, if_pos (show nI i < 90 from lt_n (n := 90) (by omega) (by decide)), s6, nI_1, M_risksBy hD hL a2 a3 hx (by omega), evK_s, E303_23, h0, if_pos (by decide), nI_1])
      () trivial
    rw [E303_0, a1, evK_v, E303_4]
    refine Eq.trans e1 ?_
    by_cases q : fsq (fun i => !decide (rkN D x (i + 1) = 0)) 90 = 90
    · rw [q, E303_6, if_neg (by decide), E303_32, E179_0, evK_s, E303_37]
    · have hy := fsq_yes (fun i => !decide (rkN D x (i + 1) = 0)) 90 (by omega)
      have h0 : ¬ rkN D x (fsq (fun i => !decide (rkN D x (i + 1) = 0)) 90 + 1) = 0 := by simpa using hy
      have hb := rkN_b hD hL x (fsq (fun i => !decide (rkN D x (i + 1) = 0)) 90 + 1)
      generalize fsq (fun i => !decide (rkN D x (i + 1) = 0)) 90 = m at *
      rw [E303_6, if_pos (show nI m < 90 from lt_n (n := 90) (by omega) (by decide)), s6, nI_1, M_risksBy hD hL a2 a3 hx (by omega), evK_s, E303_23, if_neg (show ¬ nI (rkN D x (m + 1)) = 0 from fun w => h0 (nI_ij (b := 0) (by omega) (by omega) w)), E303_32, E179_0, evK_s, E303_37]
theorem A_safest (hD : GD D) (hL : LabD D) (w : Int32) : Agr (d + 40) sl p D e 159 302 [.int w] := by
  obtain ⟨y, hy1, hy, ey⟩ := hD.sp
  have m10 : ∀ i : Nat, nI i * 10 = nI (10 * i) := fun i => by rw [show (10 : Int32) = nI 10 from rfl, nI_mul, Nat.mul_comm]
  have a10 : ∀ i : Nat, nI (10 * i) + 10 = nI (10 * (i + 1)) := fun i => by rw [show (10 : Int32) = nI 10 from rfl, nI_add]; rfl
  by_cases ha : ∃ s, s ≤ 1 ∧ w = nI s
  · obtain ⟨k, hk, rfl⟩ := ha
    have w : (if nI k < 0 then (0 : Int32) else if nI k ≤ 1 then 1 else 0) = 1 := wi_y (n := 1) hk (by decide)
    have hle : amn (fun i => rkN D (10 * i) y) 35 ≤ 35 := amn_le _
    refine ⟨.int (if k = 0 then nI (10 * amn (fun i => rkN D (10 * i) y) 35) else nI (rkN D (10 * amn (fun i => rkN D (10 * i) y) 35) y)), 0, fun I J h => ?_, fun I J h => ?_⟩
    · obtain ⟨I1, J1, I2, J2, a1, a2, a3, a4, a5, a6, a7⟩ := C_haz (d := d + 34) (sl := sl) h
      refine QC.mk1 (I' := I2) (J' := J2) ?_ a3 a7
      have s6 : I2 34 6 = nI y := (a3.sl 1 (by omega)).trans ey
      obtain ⟨⟨u, v⟩, e1, g0, g1⟩ := for_ex (M := Int32 × Int32) (fun i m => ev (d + 40) 159 38 [.ref 1, .int (nI k), .int m.1, .int m.2, .int (i * 10), .retAddr 0] [] (S sl p I2 J2)) 36 (fun i m => (i = 0 → m.2 = 1073741824) ∧ (0 < i → m.1 = nI (10 * amn (fun i => rkN D (10 * i) y) (i - 1)) ∧ m.2 = nI (rkN D (10 * amn (fun i => rkN D (10 * i) y) (i - 1)) y)))
        (by
          rintro i ⟨u, v⟩ hi ⟨g0, g1⟩
          simp only at g0 g1
          simp only
          have hb := rkN_b hD hL (10 * i) y
          rw [m10, m10, E159_38, if_pos (show nI (10 * i) < 360 from lt_n (n := 360) (by omega) (by decide)), s6, C_countAll a3 a4 a5 a6 (by omega) hy, evK_s, E159_62, a10]
          by_cases q : i = 0
          · rw [g0 q, if_pos (show nI (rkN D (10 * i) y) < 1073741824 from lt_n (n := 1073741824) (by omega) (by decide))]
            refine ⟨(nI (10 * i), nI (rkN D (10 * i) y)), rfl, fun w => absurd w (by omega), fun _ => ?_⟩
            subst q
            exact ⟨rfl, rfl⟩
          · obtain ⟨g2, g3⟩ := g1 (by omega)
            have hb2 := rkN_b hD hL (10 * amn (fun i => rkN D (10 * i) y) (i - 1)) y
            have es := amn_s (f := fun i => rkN D (10 * i) y) (n := i - 1)
            rw [show i - 1 + 1 = i by omega] at es
            rw [g3]
            by_cases c : rkN D (10 * i) y < rkN D (10 * amn (fun i => rkN D (10 * i) y) (i - 1)) y
            · rw [if_pos ((nI_lt_iff (by omega) (by omega)).mpr c)]
              rw [if_pos c] at es
              exact ⟨(nI (10 * i), nI (rkN D (10 * i) y)), rfl, fun w => absurd w (by omega), fun _ => by rw [Nat.add_sub_cancel, es]; exact ⟨rfl, rfl⟩⟩
            · rw [if_neg (fun w => c ((nI_lt_iff (by omega) (by omega)).mp w))]
              rw [if_neg c] at es
              exact ⟨(u, nI (rkN D (10 * amn (fun i => rkN D (10 * i) y) (i - 1)) y)), rfl, fun w => absurd w (by omega), fun _ => by rw [Nat.add_sub_cancel, es]; exact ⟨g2, rfl⟩⟩)
        (0, 1073741824) ⟨fun _ => rfl, fun w => absurd w (by omega)⟩
      simp only at e1 g0 g1
      obtain ⟨g2, g3⟩ := g1 (by omega)
      rw [E159_0, sp_within, w, evK_s, E159_6, if_neg (by decide), a1, evK_v, E159_22, a2, evK_v, E159_29]
      refine Eq.trans e1 ?_
      rw [E159_38, if_neg (by decide), g2, g3]
      have hk2 : k = 0 ∨ k = 1 := by omega
      rcases hk2 with rfl | rfl
      · rw [if_pos (by decide), E159_92, E163_0, evK_s, E159_95, if_pos rfl]
      · rw [if_neg (by decide), E159_92, E163_0, evK_s, E159_95, if_neg (by decide)]
    · obtain ⟨I1, J1, a1, a2, a3, a4⟩ := M_lies (d := d + 28) (sl := sl) (p := p) (J := J) hD hL h
      refine QM.mk1 (I' := I1) (J' := J1) ?_ (a2.trans h.symm) a4
      have s7 : I1 46 7 = nI y := (d6 a2 (by omega)).trans ey
      obtain ⟨u, e1, g1⟩ := for_exk (M := Int32) (fun i m => ev (d + 40) 302 24 [.ref 46, .int (nI k), .int m, .int (i * 10)] [] (S sl p I1 J1)) 1 35 (fun i m => m = nI (10 * amn (fun i => rkN D (10 * i) y) i))
        (by
          intro i m hi hm
          have hle := amn_le (f := fun i => rkN D (10 * i) y) i
          have hb := rkN_b hD hL (10 * (1 + i)) y
          have hb2 := rkN_b hD hL (10 * amn (fun i => rkN D (10 * i) y) i) y
          have es := amn_s (f := fun i => rkN D (10 * i) y) (n := i)
          rw [m10, m10, E302_24, if_pos (show nI (10 * (1 + i)) < 360 from lt_n (n := 360) (by omega) (by decide)), s7, M_risksBy hD hL a2 a3 (by omega) hy, evK_s, E302_40, s7, hm, M_risksBy hD hL a2 a3 (by omega) hy, evK_s, E302_49, a10]
          rw [Nat.add_comm i 1] at es ⊢
          by_cases c : rkN D (10 * (1 + i)) y < rkN D (10 * amn (fun i => rkN D (10 * i) y) i) y
          · rw [if_pos ((nI_lt_iff (by omega) (by omega)).mpr c)]
            rw [if_pos c] at es
            exact ⟨nI (10 * (1 + i)), rfl, by rw [es]⟩
          · rw [if_neg (fun w => c ((nI_lt_iff (by omega) (by omega)).mp w))]
            rw [if_neg c] at es
            exact ⟨nI (10 * amn (fun i => rkN D (10 * i) y) i), rfl, by rw [es]⟩)
        0 rfl
      rw [E302_0, sp_isFrom, w, evK_s, E302_6, if_neg (by decide), a1, evK_v, E302_19]
      refine Eq.trans e1 ?_
      rw [E302_24, if_neg (by decide), g1]
      have hk2 : k = 0 ∨ k = 1 := by omega
      rcases hk2 with rfl | rfl
      · rw [if_pos (by decide), E302_82, E179_0, evK_s, E302_85, if_pos rfl]
      · rw [if_neg (by decide), s7, M_risksBy hD hL a2 a3 (by omega) hy, evK_s, E302_82, E179_0, evK_s, E302_85, if_neg (by decide)]
  · have w : (if w < 0 then (0 : Int32) else if w ≤ 1 then 1 else 0) = 0 := wi_n (n := 1) (by decide) ha
    refine ⟨.int (-1), 1, fun I J h => QC.mk1 (I' := I) (J' := J) ?_ h Fc.refl, fun I J h => QM.mk1 (I' := I) (J' := J) ?_ rfl Fm.refl⟩
    · simp only [E159_0, E159_6, E159_14, E159_22, E159_29, E159_62, E159_92, E159_95, w, evK_s, evK_v, E163_0, E164_0, E178_0, E179_0, E180_0, sp_within, sp_isFrom, n10, eq_self, if_true, if_false]
    · simp only [E302_0, E302_6, E302_14, E302_19, E302_40, E302_49, E302_82, E302_85, w, evK_s, evK_v, E163_0, E164_0, E178_0, E179_0, E180_0, sp_within, sp_isFrom, n10, eq_self, if_true, if_false]
end AG15
