section AG13
variable {d sl : Nat} {p : Nat → Nat} {I I' : Nat → Nat → Int32} {J J' : Nat → Nat → Int64} {D : Nat → Nat → Int32} {e : Nat}
def Ln (x y z : Int32) : Prop := ∃ t q h, t < 360 ∧ q ≤ 90 ∧ 1 ≤ h ∧ h ≤ 100000 ∧ x = nI t ∧ y = nI q ∧ z = nI h
theorem C_isLine (x y z b : Int32) (hb : (Ln x y z ∧ b = 1) ∨ (¬ Ln x y z ∧ b = 0)) : den (d + 1) 169 [.int x, .int y, .int z] (S sl p I J) = some (some (.int b), S sl p I J) := by
  rw [E169_0, sp_within, evK_s, E169_8]
  by_cases hx : ∃ s, s ≤ 359 ∧ x = nI s
  · rw [show (if x < 0 then (0 : Int32) else if x ≤ 359 then 1 else 0) = 1 from by obtain ⟨s, hs, rfl⟩ := hx; exact wi_y (n := 359) hs (by decide), if_neg (by decide), sp_within, evK_s, E169_18]
    by_cases hy : ∃ s, s ≤ 90 ∧ y = nI s
    · rw [show (if y < 0 then (0 : Int32) else if y ≤ 90 then 1 else 0) = 1 from by obtain ⟨s, hs, rfl⟩ := hy; exact wi_y (n := 90) hs (by decide), if_neg (by decide), sp_within, evK_s, E169_29]
      by_cases hz : ∃ s, 1 ≤ s ∧ s ≤ 100000 ∧ z = nI s
      · rw [show (if z < 1 then (0 : Int32) else if z ≤ 100000 then 1 else 0) = 1 from by obtain ⟨s, h1, h2, rfl⟩ := hz; exact wj_y (a := 1) (n := 100000) h1 h2 (by decide), if_neg (by decide)]
        rcases hb with ⟨-, rfl⟩ | ⟨w, -⟩
        · rfl
        · obtain ⟨s, hs, rfl⟩ := hx
          obtain ⟨q, hq, rfl⟩ := hy
          obtain ⟨h, h1, h2, rfl⟩ := hz
          exact absurd ⟨s, q, h, by omega, hq, h1, h2, rfl, rfl, rfl⟩ w
      · rw [show (if z < 1 then (0 : Int32) else if z ≤ 100000 then 1 else 0) = 0 from wj_n (a := 1) (n := 100000) (by decide) (by decide) hz, if_pos rfl]
        rcases hb with ⟨⟨t, q, h, h1, h2, h3, h4, h5, h6, h7⟩, -⟩ | ⟨-, rfl⟩
        · exact absurd ⟨h, h3, h4, h7⟩ hz
        · rfl
    · rw [show (if y < 0 then (0 : Int32) else if y ≤ 90 then 1 else 0) = 0 from wi_n (n := 90) (by decide) hy, if_pos rfl]
      rcases hb with ⟨⟨t, q, h, h1, h2, h3, h4, h5, h6, h7⟩, -⟩ | ⟨-, rfl⟩
      · exact absurd ⟨q, h2, h6⟩ hy
      · rfl
  · rw [show (if x < 0 then (0 : Int32) else if x ≤ 359 then 1 else 0) = 0 from wi_n (n := 359) (by decide) hx, if_pos rfl]
    rcases hb with ⟨⟨t, q, h, h1, h2, h3, h4, h5, h6, h7⟩, -⟩ | ⟨-, rfl⟩
    · exact absurd ⟨t, by omega, h5⟩ hx
    · rfl
theorem M_meetsG {x y t q h : Int32} (b : Bool) (hb : (Ln t q h ∧ b = true) ∨ (¬ Ln t q h ∧ b = false)) : den (d + 2) 282 [.ref 46, .int x, .int y, .int t, .int q, .int h] (S sl p I J) = if b = true then evK (d + 2) 282 43 [.ref 46, .int x, .int y, .int t, .int q, .int h] [] (den (d + 1) 221 [.ref 46] (S sl p I J)) else some (some (.int (-1)), S sl p (up2 I 46 0 1) J) := by
  rw [E282_0, sp_isFrom, evK_s, E282_8]
  have bad : ev (d + 2) 282 33 [.ref 46, .int x, .int y, .int t, .int q, .int h] [] (S sl p I J) = some (some (.int (-1)), S sl p (up2 I 46 0 1) J) := by rw [E282_33, E178_0, evK_s, E282_38]
  by_cases hx : ∃ s, s ≤ 359 ∧ t = nI s
  · rw [show (if t < 0 then (0 : Int32) else if t ≤ 359 then 1 else 0) = 1 from by obtain ⟨s, hs, rfl⟩ := hx; exact wi_y (n := 359) hs (by decide), if_neg (by decide), sp_isFrom, evK_s, E282_19]
    by_cases hy : ∃ s, s ≤ 90 ∧ q = nI s
    · rw [show (if q < 0 then (0 : Int32) else if q ≤ 90 then 1 else 0) = 1 from by obtain ⟨s, hs, rfl⟩ := hy; exact wi_y (n := 90) hs (by decide), if_neg (by decide), sp_isFrom, evK_s, E282_30]
      by_cases hz : ∃ s, 1 ≤ s ∧ s ≤ 100000 ∧ h = nI s
      · rw [show (if h < 1 then (0 : Int32) else if h ≤ 100000 then 1 else 0) = 1 from by obtain ⟨s, h1, h2, rfl⟩ := hz; exact wj_y (a := 1) (n := 100000) h1 h2 (by decide), if_neg (by decide)]
        rcases hb with ⟨-, rfl⟩ | ⟨w, -⟩
        · rw [if_pos rfl]
        · obtain ⟨s, hs, rfl⟩ := hx
          obtain ⟨q, hq, rfl⟩ := hy
          obtain ⟨h, h1, h2, rfl⟩ := hz
          exact absurd ⟨s, q, h, by omega, hq, h1, h2, rfl, rfl, rfl⟩ w
      · rw [show (if h < 1 then (0 : Int32) else if h ≤ 100000 then 1 else 0) = 0 from wj_n (a := 1) (n := 100000) (by decide) (by decide) hz, if_pos rfl]
        rcases hb with ⟨⟨t, q, h, h1, h2, h3, h4, h5, h6, h7⟩, -⟩ | ⟨-, rfl⟩
        · exact absurd ⟨h, h3, h4, h7⟩ hz
        · rw [if_neg (by decide), bad]
    · rw [show (if q < 0 then (0 : Int32) else if q ≤ 90 then 1 else 0) = 0 from wi_n (n := 90) (by decide) hy, if_pos rfl]
      rcases hb with ⟨⟨t, q, h, h1, h2, h3, h4, h5, h6, h7⟩, -⟩ | ⟨-, rfl⟩
      · exact absurd ⟨q, h2, h6⟩ hy
      · rw [if_neg (by decide), bad]
  · rw [show (if t < 0 then (0 : Int32) else if t ≤ 359 then 1 else 0) = 0 from wi_n (n := 359) (by decide) hx, if_pos rfl]
    rcases hb with ⟨⟨t, q, h, h1, h2, h3, h4, h5, h6, h7⟩, -⟩ | ⟨-, rfl⟩
    · exact absurd ⟨t, by omega, h5⟩ hx
    · rw [if_neg (by decide), bad]
theorem l64_0 {x : Int32} (h : ¬ x = 0) : ¬ x.toInt64 = 0 := fun w => h (by
  have := congrArg Int64.toInt32 w
  rw [i64_i32] at this
  exact this)
theorem A_meets (hD : GD D) (hL : LabD D) (x y t q h : Int32) : Agr (d + 40) sl p D e 154 282 [.int x, .int y, .int t, .int q, .int h] := by
  have n60 := hD.n60
  have h30 := nst_30 hD hL
  have m6 := hD.m6
  by_cases hl : Ln t q h
  · have hM : ∀ I J, dat I = D → ∃ I1 J1, den (d + 40) 282 [.ref 46, .int x, .int y, .int t, .int q, .int h] (S sl p I J) = ev (d + 40) 282 43 [.ref 46, .int x, .int y, .int t, .int q, .int h] [] (S sl p I1 J1) ∧ dat I1 = D ∧ SetAt I1 D ∧ MeanAt I1 D (nst D) ∧ Fm I J I1 J1 := by
      intro I J hd
      obtain ⟨I1, J1, a1, a2, a3, a4, a5⟩ := M_means (d := d + 29) (sl := sl) (p := p) (J := J) hD hd
      exact ⟨I1, J1, by rw [M_meetsG true (Or.inl ⟨hl, rfl⟩), if_pos rfl, a1, evK_v], a2, a3, a4, a5⟩
    by_cases hx : ∃ i, i < nst D ∧ x = nI i
    · obtain ⟨s, hs, rfl⟩ := hx
      by_cases hy : ∃ i, i < nl D ∧ y = nI i
      · obtain ⟨l, hll, rfl⟩ := hy
        have hc : cnO D s l ≤ nc D := cnt_le _
        by_cases h2 : cnO D s l < 2
        · refine ⟨.int (-1), 5, fun I J h => ?_, fun I J h => ?_⟩
          · obtain ⟨I1, a1, a2, a3, a4, a5⟩ := C_hasSet2 (d := d + 35) (sl := sl) h (nI s)
            refine QC.mk1 (I' := I1) (J' := J) ?_ a2 a4
            rw [E154_0, C_isLine _ _ _ 1 (Or.inl ⟨hl, rfl⟩), evK_s, E154_8, if_neg (by decide), a1, st_y hD hL hs, evK_s, E154_25, if_neg (by decide), C_hasLine a2.sv, ln_y hD hll, evK_s, E154_36, if_neg (by decide), C_countOn a2.sv a3.pl, evK_s, E154_54, if_pos (show nI (cnO D s l) < 2 from lt_n (n := 2) h2 (by decide)), E164_0, evK_s, E154_63]
          · obtain ⟨I1, J1, a1, a2, a3, a4, a5⟩ := hM I J h
            obtain ⟨I2, b1, b2, b3, b4⟩ := M_spac (d := d + 35) (sl := sl) (p := p) (J := J1) hD hL a2 a3 a4 hs hll
            refine QM.mk1 (I' := I2) (J' := J1) ?_ (b2.trans h.symm) (a5.trans ⟨fun a k _ => b3 _ _ (by omega), fun _ _ _ => rfl⟩)
            rw [a1, E282_43, sp_isSet hD a3, st_y hD hL hs, evK_s, E282_48, if_neg (by decide), M_isLine hD a2, ln_y hD hll, evK_s, E282_56, if_neg (by decide), b1, if_pos h2, evK_s, E282_71, if_pos rfl, E282_81, E178_0, evK_s, E282_86]
        · have h2' : 2 ≤ cnO D s l := by omega
          have nlt2 : ¬ nI (cnO D s l) < 2 := fun w => h2 ((nI_lt_iff (b := 2) (by omega) (by omega)).mp w)
          by_cases h0 : trO D s l = 0
          · refine ⟨.int (-1), 5, fun I J h => ?_, fun I J h => ?_⟩
            · obtain ⟨I1, a1, a2, a3, a4, a5⟩ := C_hasSet2 (d := d + 35) (sl := sl) h (nI s)
              obtain ⟨I2, J2, b1, b2, -, -, -, b3⟩ := C_true (d := d + 34) (sl := sl) a2 a3 a5 hs hll h2'
              refine QC.mk1 (I' := I2) (J' := J2) ?_ b2 (a4.trans b3)
              rw [E154_0, C_isLine _ _ _ 1 (Or.inl ⟨hl, rfl⟩), evK_s, E154_8, if_neg (by decide), a1, st_y hD hL hs, evK_s, E154_25, if_neg (by decide), C_hasLine a2.sv, ln_y hD hll, evK_s, E154_36, if_neg (by decide), C_countOn a2.sv a3.pl, evK_s, E154_54, if_neg nlt2, b1, evK_s, E154_73, if_pos h0, E164_0, evK_s, E154_85]
            · obtain ⟨I1, J1, a1, a2, a3, a4, a5⟩ := hM I J h
              obtain ⟨I2, b1, b2, b3, b4⟩ := M_spac (d := d + 35) (sl := sl) (p := p) (J := J1) hD hL a2 a3 a4 hs hll
              obtain ⟨c1, c2, c3⟩ := b4 h2'
              refine QM.mk1 (I' := I2) (J' := J1) ?_ (b2.trans h.symm) (a5.trans ⟨fun a k _ => b3 _ _ (by omega), fun _ _ _ => rfl⟩)
              rw [a1, E282_43, sp_isSet hD a3, st_y hD hL hs, evK_s, E282_48, if_neg (by decide), M_isLine hD a2, ln_y hD hll, evK_s, E282_56, if_neg (by decide), b1, if_neg h2, evK_s, E282_71, if_neg (by decide), c3, if_pos h0, E282_81, E178_0, evK_s, E282_86]
          · obtain ⟨t', q', h', u1, u2, u3, u4, rfl, rfl, rfl⟩ := id hl
            have hb := meO_b hD hL hs
            have hq := meO_q hD hL hs
            refine ⟨.int ((nI h').toInt64 * coV (meO D s) (arV (nI t') (nI q')) / 1000 / (trO D s l).toInt64).toInt32, 0, fun I J h => ?_, fun I J h => ?_⟩
            · obtain ⟨I1, a1, a2, a3, a4, a5⟩ := C_hasSet2 (d := d + 35) (sl := sl) h (nI s)
              obtain ⟨I2, J2, b1, b2, b3, b4, b5, b6⟩ := C_true (d := d + 34) (sl := sl) a2 a3 a5 hs hll h2'
              have k2 := b2.ask (arV (nI t') (nI q')) (a := 45) (by omega)
              have G2 : GrC I2 (setV J2 45 (arV (nI t') (nI q'))) D := b3.fr hD (fun _ _ _ => rfl) (fun a k _ _ => setV_ne (by omega))
              obtain ⟨I3, J3, c1, c2, c3, c4, c5, c6⟩ := sp_measured (d := d + 35) (sl := sl) k2.sv G2 hs
              have k3 : CK p I3 J3 D e := k2.grp (fun a k _ _ _ => c5 _ _ (by omega) (by omega)) c6 c2 (by rw [c5 _ _ (by omega) (by omega)]; exact b5)
              have m3 := c2.ms s hs c3
              have v45 : vec J3 45 = arV (nI t') (nI q') := by
                rw [← vec_setV (J := J2) (a := 45) (v := arV (nI t') (nI q'))]
                unfold vec
                rw [c6 _ _ (by omega), c6 _ _ (by omega), c6 _ _ (by omega)]
              refine QC.mk1 (I' := I3) (J' := J3) ?_ k3 (a4.trans (b6.trans (Fc.trans (Fc.ask (by omega)) ⟨fun a k _ _ => c5 _ _ (by omega) (by omega), fun a k _ _ => c6 _ _ (by omega)⟩)))
              rw [E154_0, C_isLine _ _ _ 1 (Or.inl ⟨hl, rfl⟩), evK_s, E154_8, if_neg (by decide), a1, st_y hD hL hs, evK_s, E154_25, if_neg (by decide), C_hasLine a2.sv, ln_y hD hll, evK_s, E154_36, if_neg (by decide), C_countOn a2.sv a3.pl, evK_s, E154_54, if_neg nlt2, b1, evK_s, E154_73, if_neg h0, sp_arrowInto u1 u2 ob_45 b2.sv.sn, evK_v, E154_100, c1, evK_s, E154_111 _ _ _ _ _ _ _ (by omega), C_slant (ob800 (by omega)) ob_45 (by rw [m3.mean]; exact hb) (by rw [v45]; exact arV_b _ _) (by rw [m3.mean]; exact hq) (by rw [v45]; exact vq_arr u1 u2), m3.mean, v45, evK_s, E154_121, sp_parted, evK_s, E154_137, E163_0, evK_s, E154_141]
              unfold pt
              rw [if_neg (l64_0 h0)]
            · obtain ⟨I1, J1, a1, a2, a3, a4, a5⟩ := hM I J h
              obtain ⟨I2, b1, b2, b3, b4⟩ := M_spac (d := d + 35) (sl := sl) (p := p) (J := J1) hD hL a2 a3 a4 hs hll
              obtain ⟨c1, c2, c3⟩ := b4 h2'
              refine QM.mk1 (I' := set3 I2 (arX (nI t') (nI q')) (arY (nI t') (nI q')) (arZ (nI q'))) (J' := J1) ?_ (by rw [dat_set3]; exact b2.trans h.symm) (a5.trans (Fm.trans (I' := I2) (J' := J1) ⟨fun a k _ => b3 _ _ (by omega), fun _ _ _ => rfl⟩ Fm.set3))
              have em : mvI (set3 I2 (arX (nI t') (nI q')) (arY (nI t') (nI q')) (arZ (nI q'))) s = meO D s := by
                rw [← a4.v hs hb]
                unfold mvI
                rw [set3_n (by omega), set3_n (by omega), set3_n (by omega), b3 _ _ (by omega), b3 _ _ (by omega), b3 _ _ (by omega)]
              have ec2 := M_coef (d := d + 36) (sl := sl) (p := p) (I := set3 I2 (arX (nI t') (nI q')) (arY (nI t') (nI q')) (arZ (nI q'))) (J := J1) (s := s) (a := arV (nI t') (nI q')) (by omega) (by rw [em]; exact hb) (arV_b _ _) (by rw [em]; exact hq) (vq_arr u1 u2)
              have e44 : set3 I2 (arX (nI t') (nI q')) (arY (nI t') (nI q')) (arZ (nI q')) 46 44 = trO D s l := by rw [set3_n (by omega)]; exact c3
              have ea : den (d + 39) 279 [.ref 46, .int (nI s), .long (Int32.toInt64 (set3 I2 (arX (nI t') (nI q')) (arY (nI t') (nI q')) (arZ (nI q')) 46 23)), .long (Int32.toInt64 (set3 I2 (arX (nI t') (nI q')) (arY (nI t') (nI q')) (arZ (nI q')) 46 24)), .long (Int32.toInt64 (set3 I2 (arX (nI t') (nI q')) (arY (nI t') (nI q')) (arZ (nI q')) 46 25))] (S sl p (set3 I2 (arX (nI t') (nI q')) (arY (nI t') (nI q')) (arZ (nI q'))) J1) = den (d + 39) 279 [.ref 46, .int (nI s), .long (arV (nI t') (nI q')).1, .long (arV (nI t') (nI q')).2.1, .long (arV (nI t') (nI q')).2.2] (S sl p (set3 I2 (arX (nI t') (nI q')) (arY (nI t') (nI q')) (arZ (nI q'))) J1) := by rw [set3_r.1, set3_r.2.1, set3_r.2.2]; rfl
              rw [a1, E282_43, sp_isSet hD a3, st_y hD hL hs, evK_s, E282_48, if_neg (by decide), M_isLine hD a2, ln_y hD hll, evK_s, E282_56, if_neg (by decide), b1, if_neg h2, evK_s, E282_71, if_neg (by decide), c3, if_neg h0, sp_laysArrow, evK_v, E282_94, ea, ec2, evK_s, E282_118, e44, em, ck_if (by simpa using l64_0 h0), E179_0, evK_s, E282_133]
      · refine ⟨.int (-1), 2, fun I J h => ?_, fun I J h => ?_⟩
        · obtain ⟨I1, a1, a2, a3, a4, a5⟩ := C_hasSet2 (d := d + 35) (sl := sl) h (nI s)
          refine QC.mk1 (I' := I1) (J' := J) ?_ a2 a4
          rw [E154_0, C_isLine _ _ _ 1 (Or.inl ⟨hl, rfl⟩), evK_s, E154_8, if_neg (by decide), a1, st_y hD hL hs, evK_s, E154_25, if_neg (by decide), C_hasLine a2.sv, ln_n hD hy, evK_s, E154_36, if_pos rfl, E154_39, E164_0, evK_s, E154_44]
        · obtain ⟨I1, J1, a1, a2, a3, a4, a5⟩ := hM I J h
          refine QM.mk1 (I' := I1) (J' := J1) ?_ (a2.trans h.symm) a5
          rw [a1, E282_43, sp_isSet hD a3, st_y hD hL hs, evK_s, E282_48, if_neg (by decide), M_isLine hD a2, ln_n hD hy, evK_s, E282_56, if_pos rfl, E282_59, E178_0, evK_s, E282_64]
    · refine ⟨.int (-1), 2, fun I J h => ?_, fun I J h => ?_⟩
      · obtain ⟨I1, a1, a2, a3, a4, a5⟩ := C_hasSet2 (d := d + 35) (sl := sl) h x
        refine QC.mk1 (I' := I1) (J' := J) ?_ a2 a4
        rw [E154_0, C_isLine _ _ _ 1 (Or.inl ⟨hl, rfl⟩), evK_s, E154_8, if_neg (by decide), a1, st_n hD hL hx, evK_s, E154_25, if_pos rfl, E154_39, E164_0, evK_s, E154_44]
      · obtain ⟨I1, J1, a1, a2, a3, a4, a5⟩ := hM I J h
        refine QM.mk1 (I' := I1) (J' := J1) ?_ (a2.trans h.symm) a5
        rw [a1, E282_43, sp_isSet hD a3, st_n hD hL hx, evK_s, E282_48, if_pos rfl, E282_59, E178_0, evK_s, E282_64]
  · refine ⟨.int (-1), 1, fun I J h => QC.mk1 (I' := I) (J' := J) ?_ h Fc.refl, fun I J h => QM.mk1 (I' := I) (J' := J) ?_ rfl Fm.refl⟩
    · rw [E154_0, C_isLine _ _ _ 0 (Or.inr ⟨hl, rfl⟩), evK_s, E154_8, if_pos rfl, E164_0, evK_s, E154_16]
    · rw [M_meetsG false (Or.inr ⟨hl, rfl⟩), if_neg (by decide)]
theorem crs_w {u v : V3} (hu : bv u) (hv : bv v) : bw (crs u v) := by
  have m : ∀ a b c d : Int64, bI a → bI b → bI c → bI d → bJ ((a * b - c * d) / 1000) := by
    intro a b c d ha hb hc hd
    have h1 := mul_b (A := 1000) (B := 1000) ha hb (by decide)
    have h2 := mul_b (A := 1000) (B := 1000) hc hd (by decide)
    have e1 : (a * b - c * d).toInt = a.toInt * b.toInt - c.toInt * d.toInt := by rw [sub64 (by rw [h1.1, h2.1]; omega) (by rw [h1.1, h2.1]; omega), h1.1, h2.1]
    have e3 : (1000 : Int64).toInt = 1000 := rfl
    unfold bJ
    rw [div64 (by rw [e3]; omega), e1, e3]
    exact tdiv_b (c := 2000) (by omega) (by omega)
  exact ⟨m _ _ _ _ hu.2.1 hv.2.2 hu.2.2 hv.2.1, m _ _ _ _ hu.2.2 hv.1 hu.1 hv.2.2, m _ _ _ _ hu.1 hv.2.1 hu.2.1 hv.1⟩
theorem C_cross {a b c : Nat} (ha : ob a 0) (hb : ob b 0) (hc : ob c 0) : den (d + 1) 7 [.ref a, .ref b, .ref c] (S sl p I J) = some (none, S sl p I (setV J a (crs (vec J b) (vec J c)))) := by
  rw [E7_0 ha hb hc, sp_put ha, evK_v, E7_73 ha hb hc]
  rfl
theorem M_cross {a b : Nat} (ha : a < 30) (hb : b < 30) : den (d + 1) 284 [.ref 46, .int (nI a), .int (nI b)] (S sl p I J) = some (none, S sl p (set3v I (crs (mvI I a) (mvI I b))) J) := by
  rw [E284_0, ck_if (ixb_n ha (by decide)), ck_if (ixb_n ha (by decide)), ck_if (ixb_n ha (by decide)), ck_if (ixb_n hb (by decide)), ck_if (ixb_n hb (by decide)), ck_if (ixb_n hb (by decide)), cl_n (by omega), cl_n (by omega), E283_0, evK_v, E284_46]
  rfl
end AG13
